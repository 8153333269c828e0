def pw_REL (cc : Nat) (ik : Int32) (wr : Int32) (nd : Int32) (ps : Int32) (C : Nat → Int32) (br : Int32) (n_ : Int32) (K : Nat → Int32) (D : Nat → Int32) (L : Nat → Int32) (M : Nat → Int32) (ws : Int32) (nx_ : Int32) (T : Nat → Int32) (sq : Int32) (A : Nat → Int32) (R : Nat → Int32) (G : Nat → Int32) (kbr : Int32) (kn : Int32) (kK : Nat → Int32) (kD : Nat → Int32) (kL : Nat → Int32) (kM : Nat → Int32) (kws : Int32) (knx : Int32) (kT : Nat → Int32) (ksq : Int32) (kA : Nat → Int32) (kR : Nat → Int32) (kG : Nat → Int32) (pm : Int32) (C' : Nat → Int32) (cl : Int32) (rs : Int32) (wn : Int32) (br' : Int32) (wr' : Int32) (nd' : Int32) (sm : Int32) (kw : Int32) (kwk : Int32) (kbr' : Int32) (ks : Int32) (K' : Nat → Int32) (D' : Nat → Int32) (L' : Nat → Int32) (M' : Nat → Int32) (T' : Nat → Int32) (S : Nat → Int32) (kK' : Nat → Int32) (kD' : Nat → Int32) (kL' : Nat → Int32) (kM' : Nat → Int32) (kS : Nat → Int32) : Prop := pw_RP2 ps C pm C' ∧ ∃ (n w : Nat) (rn : Nat → Nat) (W N y : Nat), pw_RN n w rn br n_ K D L M ws nx_ T sq A R G cl K' D' L' M' rs wn T' br' sm S ∧ wr = nI W ∧ wr' = nI W ∧ W ≤ cc ∧ nd = nI N ∧ nd' = nI N ∧ N ≤ 20 ∧ kw = pw_l y ∧ ((ik = 1 ∧ y = W + 1 ∧ ¬ n = 0 ∧ pw_RN n w rn kbr kn kK kD kL kM kws knx kT ksq kA kR kG cl kK' kD' kL' kM' rs kwk T' kbr' ks kS) ∨ (ik = 0 ∧ y ≤ W))
theorem pw_REL.up {cc : Nat} {ik : Int32} {wr : Int32} {nd : Int32} {ps : Int32} {C : Nat → Int32} {br : Int32} {n_ : Int32} {K : Nat → Int32} {D : Nat → Int32} {L : Nat → Int32} {M : Nat → Int32} {ws : Int32} {nx_ : Int32} {T : Nat → Int32} {sq : Int32} {A : Nat → Int32} {R : Nat → Int32} {G : Nat → Int32} {kbr : Int32} {kn : Int32} {kK : Nat → Int32} {kD : Nat → Int32} {kL : Nat → Int32} {kM : Nat → Int32} {kws : Int32} {knx : Int32} {kT : Nat → Int32} {ksq : Int32} {kA : Nat → Int32} {kR : Nat → Int32} {kG : Nat → Int32} {pm : Int32} {C' : Nat → Int32} {cl : Int32} {rs : Int32} {wn : Int32} {br' : Int32} {wr' : Int32} {nd' : Int32} {sm : Int32} {kw : Int32} {kwk : Int32} {kbr' : Int32} {ks : Int32} {K' : Nat → Int32} {D' : Nat → Int32} {L' : Nat → Int32} {M' : Nat → Int32} {T' : Nat → Int32} {S : Nat → Int32} {kK' : Nat → Int32} {kD' : Nat → Int32} {kL' : Nat → Int32} {kM' : Nat → Int32} {kS : Nat → Int32} (h : pw_REL cc ik wr nd ps C br n_ K D L M ws nx_ T sq A R G kbr kn kK kD kL kM kws knx kT ksq kA kR kG pm C' cl rs wn br' wr' nd' sm kw kwk kbr' ks K' D' L' M' T' S kK' kD' kL' kM' kS) : pw_REL (cc + 1) ik wr nd ps C br n_ K D L M ws nx_ T sq A R G kbr kn kK kD kL kM kws knx kT ksq kA kR kG pm C' cl rs wn br' wr' nd' sm kw kwk kbr' ks K' D' L' M' T' S kK' kD' kL' kM' kS := by
  obtain ⟨h1, n, w, rn, W, N, y, h2, h3, h4, h5, h6⟩ := h
  exact ⟨h1, n, w, rn, W, N, y, h2, h3, h4, by omega, h6⟩
theorem pw_cf4 (a1 a2 : Int32) (a3 a4 a5 a6 : Nat → Int32) (a7 a8 : Int32) (a9 : Nat → Int32) (a10 : Int32) (a11 a12 a13 : Nat → Int32) (b1 b2 : Int32) (b3 b4 b5 b6 : Nat → Int32) (b7 b8 : Int32) (b9 : Nat → Int32) (b10 : Int32) (b11 b12 b13 : Nat → Int32) : mX4_copyFrom a1 a2 a3 a4 a5 a6 a7 a8 a9 a10 a11 a12 a13 b1 b2 b3 b4 b5 b6 b7 b8 b9 b10 b11 b12 b13 = some (b1, b2, va_cpy b3 a3 0 0 6, va_cpy b4 a4 0 0 6, va_cpy b5 a5 0 0 6, va_cpy b6 a6 0 0 6, b7, b8, va_cpy b9 a9 0 0 8, b10, va_cpy b11 a11 0 0 6, va_cpy b12 a12 0 0 6, va_cpy b13 a13 0 0 6) := by
  unfold mX4_copyFrom mX0_copyFrom mX5_copyFrom mX3_copyFrom
  rw [pw_n5, pw_n3, pw_n4]
theorem pw_m_image {cc : Nat} {ik : Int32} {wr : Int32} {nd : Int32} {ps : Int32} {C : Nat → Int32} {br : Int32} {n_ : Int32} {K : Nat → Int32} {D : Nat → Int32} {L : Nat → Int32} {M : Nat → Int32} {ws : Int32} {nx_ : Int32} {T : Nat → Int32} {sq : Int32} {A : Nat → Int32} {R : Nat → Int32} {G : Nat → Int32} {kbr : Int32} {kn : Int32} {kK : Nat → Int32} {kD : Nat → Int32} {kL : Nat → Int32} {kM : Nat → Int32} {kws : Int32} {knx : Int32} {kT : Nat → Int32} {ksq : Int32} {kA : Nat → Int32} {kR : Nat → Int32} {kG : Nat → Int32} {pm : Int32} {C' : Nat → Int32} {cl : Int32} {rs : Int32} {wn : Int32} {br' : Int32} {wr' : Int32} {nd' : Int32} {sm : Int32} {kw : Int32} {kwk : Int32} {kbr' : Int32} {ks : Int32} {K' : Nat → Int32} {D' : Nat → Int32} {L' : Nat → Int32} {M' : Nat → Int32} {T' : Nat → Int32} {S : Nat → Int32} {kK' : Nat → Int32} {kD' : Nat → Int32} {kL' : Nat → Int32} {kM' : Nat → Int32} {kS : Nat → Int32} (h : pw_REL cc ik wr nd ps C br n_ K D L M ws nx_ T sq A R G kbr kn kK kD kL kM kws knx kT ksq kA kR kG pm C' cl rs wn br' wr' nd' sm kw kwk kbr' ks K' D' L' M' T' S kK' kD' kL' kM' kS) : ∃ r ik1 kbr1 kn1 kK1 kD1 kL1 kM1 kws1 knx1 kT1 ksq1 kA1 kR1 kG1 kw1 kwk1 kbr1' ks1 kK1' kD1' kL1' kM1' kS1, mX6_image ik br n_ K D L M ws nx_ T sq A R G kbr kn kK kD kL kM kws knx kT ksq kA kR kG = some (r, ik1, kbr1, kn1, kK1, kD1, kL1, kM1, kws1, knx1, kT1, ksq1, kA1, kR1, kG1) ∧ mX7_image cl wn br' wr' sm kw kwk kbr' ks K' D' L' M' S kK' kD' kL' kM' kS = some (r, kw1, kwk1, kbr1', ks1, kK1', kD1', kL1', kM1', kS1) ∧ pw_REL (cc + 1) ik1 wr nd ps C br n_ K D L M ws nx_ T sq A R G kbr1 kn1 kK1 kD1 kL1 kM1 kws1 knx1 kT1 ksq1 kA1 kR1 kG1 pm C' cl rs wn br' wr' nd' sm kw1 kwk1 kbr1' ks1 K' D' L' M' T' S kK1' kD1' kL1' kM1' kS1 := by
  have hup := h.up
  obtain ⟨hp, n, w, rn, W, N, y, hN, ew, ew', hWc, en, en', hN2, ey, hk⟩ := h
  obtain ⟨kd, d, ln, m, nx, b, q, a, r, g, rfl, rfl, rfl, rfl, rfl, rfl, rfl, rfl, rfl, rfl, hnx, hb, hW, hW', hM, hM', hR, hS⟩ := id hN
  have hn := hW.1
  unfold mX6_image mX7_image mX5_next
  by_cases q1 : n = 0
  · subst q1
    simp only [pw_stN, pw_laN, pw_rd, pw_wr, pw_bs, pw_i0, pw_i1, pw_n2, pw_n3, pw_n4, pw_n5, pw_n13]
    exact ⟨_, _, _, _, _, _, _, _, _, _, _, _, _, _, _, _, _, _, _, _, _, _, _, _, rfl, rfl, hup⟩
  · obtain ⟨r1, r2⟩ := hR.resolve_left q1
    obtain ⟨c1, c1a, c1b⟩ := pw_cp (n := 6) K' kK' (by decide)
    obtain ⟨c2, c2a, c2b⟩ := pw_cp (n := 6) D' kD' (by decide)
    obtain ⟨c3, c3a, c3b⟩ := pw_cp (n := 6) L' kL' (by decide)
    obtain ⟨c4, c4a, c4b⟩ := pw_cp (n := 6) M' kM' (by decide)
    obtain ⟨c5, c5a, c5b⟩ := pw_cp (n := 18) S kS (by decide)
    simp only [pw_stY hn q1, pw_laY hn q1, pw_cf4, c1a, c2a, c3a, c4a, c5a, pw_rd, pw_wr, pw_bs, pw_i0, pw_i1, pw_n2, pw_n3, pw_n4, pw_n5, pw_n13]
    refine ⟨_, _, _, _, _, _, _, _, _, _, _, _, _, _, _, _, _, _, _, _, _, _, _, _, rfl, rfl, hp, n, w, rn, W, N, W + 1, hN, ew, ew', by omega, en, en', hN2, ew', Or.inl ⟨rfl, rfl, q1, ?_⟩⟩
    exact ⟨kd, d, ln, m, nx, b, q, a, r, g, rfl, rfl, rfl, rfl, rfl, rfl, rfl, rfl, rfl, rfl, hnx, hb, hW.cp, hW'.to c1b c2b c3b, hM.cp hn, hM'.to hn c4b, Or.inr ⟨r1.cp, r2⟩, pw_cpS hS c5b⟩
theorem pw_m_restore {cc : Nat} {ik : Int32} {wr : Int32} {nd : Int32} {ps : Int32} {C : Nat → Int32} {br : Int32} {n_ : Int32} {K : Nat → Int32} {D : Nat → Int32} {L : Nat → Int32} {M : Nat → Int32} {ws : Int32} {nx_ : Int32} {T : Nat → Int32} {sq : Int32} {A : Nat → Int32} {R : Nat → Int32} {G : Nat → Int32} {kbr : Int32} {kn : Int32} {kK : Nat → Int32} {kD : Nat → Int32} {kL : Nat → Int32} {kM : Nat → Int32} {kws : Int32} {knx : Int32} {kT : Nat → Int32} {ksq : Int32} {kA : Nat → Int32} {kR : Nat → Int32} {kG : Nat → Int32} {pm : Int32} {C' : Nat → Int32} {cl : Int32} {rs : Int32} {wn : Int32} {br' : Int32} {wr' : Int32} {nd' : Int32} {sm : Int32} {kw : Int32} {kwk : Int32} {kbr' : Int32} {ks : Int32} {K' : Nat → Int32} {D' : Nat → Int32} {L' : Nat → Int32} {M' : Nat → Int32} {T' : Nat → Int32} {S : Nat → Int32} {kK' : Nat → Int32} {kD' : Nat → Int32} {kL' : Nat → Int32} {kM' : Nat → Int32} {kS : Nat → Int32} (h : pw_REL cc ik wr nd ps C br n_ K D L M ws nx_ T sq A R G kbr kn kK kD kL kM kws knx kT ksq kA kR kG pm C' cl rs wn br' wr' nd' sm kw kwk kbr' ks K' D' L' M' T' S kK' kD' kL' kM' kS) (hcc : cc < 2 ^ 20) : ∃ r br1 n1 K1 D1 L1 M1 ws1 nx1 T1 sq1 A1 R1 G1 wn1 br1' sm1 K1' D1' L1' M1' S1, mX6_restore ik br n_ K D L M ws nx_ T sq A R G kbr kn kK kD kL kM kws knx kT ksq kA kR kG = some (r, br1, n1, K1, D1, L1, M1, ws1, nx1, T1, sq1, A1, R1, G1) ∧ mX7_restore wn br' wr' sm kw kwk kbr' ks K' D' L' M' S kK' kD' kL' kM' kS = some (r, wn1, br1', sm1, K1', D1', L1', M1', S1) ∧ pw_REL (cc + 1) ik wr nd ps C br1 n1 K1 D1 L1 M1 ws1 nx1 T1 sq1 A1 R1 G1 kbr kn kK kD kL kM kws knx kT ksq kA kR kG pm C' cl rs wn1 br1' wr' nd' sm1 kw kwk kbr' ks K1' D1' L1' M1' T' S1 kK' kD' kL' kM' kS := by
  have hup := h.up
  obtain ⟨hp, n, w, rn, W, N, y, hN, ew, ew', hWc, en, en', hN2, ey, hk⟩ := h
  unfold mX6_restore mX7_restore mX5_next
  rcases hk with ⟨hi, hy, h0, hK⟩ | ⟨hi, hy⟩
  · obtain ⟨kd, d, ln, m, nx, b, q, a, r, g, rfl, rfl, rfl, rfl, rfl, rfl, rfl, rfl, rfl, rfl, hnx, hb, hW, hW', hM, hM', hR, hS⟩ := id hK
    have hn := hW.1
    obtain ⟨r1, r2⟩ := hR.resolve_left h0
    obtain ⟨c1, c1a, c1b⟩ := pw_cp (n := 6) kK' K' (by decide)
    obtain ⟨c2, c2a, c2b⟩ := pw_cp (n := 6) kD' D' (by decide)
    obtain ⟨c3, c3a, c3b⟩ := pw_cp (n := 6) kL' L' (by decide)
    obtain ⟨c4, c4a, c4b⟩ := pw_cp (n := 6) kM' M' (by decide)
    obtain ⟨c5, c5a, c5b⟩ := pw_cp (n := 18) kS S (by decide)
    have e1 : kw = wr' := by rw [ey, hy, ew']; rfl
    subst hi
    rw [if_pos e1]
    simp only [pw_cf4, c1a, c2a, c3a, c4a, c5a, pw_rd, pw_wr, pw_bs, pw_i0, pw_i1, pw_n2, pw_n3, pw_n4, pw_n5, pw_n13]
    refine ⟨_, _, _, _, _, _, _, _, _, _, _, _, _, _, _, _, _, _, _, _, _, _, rfl, rfl, hp, n, w, rn, W, N, y, ?_, ew, ew', by omega, en, en', hN2, ey, Or.inl ⟨rfl, hy, h0, hK⟩⟩
    exact ⟨kd, d, ln, m, nx, b, q, a, r, g, rfl, rfl, rfl, rfl, rfl, rfl, rfl, rfl, rfl, rfl, hnx, hb, hW.cp, hW'.to c1b c2b c3b, hM.cp hn, hM'.to hn c4b, Or.inr ⟨r1.cp, r2⟩, pw_cpS hS c5b⟩
  · subst hi
    have e1 : ¬ kw = wr' := by
      rw [ey, ew']
      intro z
      have z2 := congrArg Int32.toInt z
      rw [pw_lT (by omega), nI_toInt (by omega)] at z2
      omega
    rw [if_neg e1, if_pos rfl]
    exact ⟨_, _, _, _, _, _, _, _, _, _, _, _, _, _, _, _, _, _, _, _, _, _, rfl, rfl, hup⟩
abbrev pw_T14 : Type := Int32 × Int32 × Int32 × Int32 × Int32 × Int32 × Int32 × Int32 × Int32 × (Nat → Int32) × (Nat → Int32) × (Nat → Int32) × (Nat → Int32) × (Nat → Int32)
theorem pw_m4 (k : Nat) : 4 * nI k = nI (4 * k) := pk_mul 4 k
theorem pw_k1L {p : Nat} {C : Nat → Int32} {c : Nat → Nat} (h : pw_P p C c) (hw : pw_isw p c) (kk : Int32 → (Nat → Int32) → (Nat → Int32) → (Nat → Int32) → (Nat → Int32) → Option pw_T14) : ∀ (j f k : Nat) (K D L M : Nat → Int32), pw_rp c p 0 / 4 = k + j → j < f → pw_ly c k K D L M → ∃ z K' D' L' M', mX7_wall_L1 C (nI (pw_rp c p 0 - 1)) kk f (nI k) K D L M = kk z K' D' L' M' ∧ pw_ly c (pw_rp c p 0 / 4) K' D' L' M'
  | 0, 0, k, K, D, L, M, _, h2, _ => absurd h2 (Nat.not_lt_zero 0)
  | j + 1, 0, k, K, D, L, M, _, h2, _ => absurd h2 (Nat.not_lt_zero _)
  | 0, f + 1, k, K, D, L, M, h1, h2, hY => by
    obtain ⟨-, e2, e3, e4, -⟩ := pw_ew hw
    have e : k = pw_rp c p 0 / 4 := by omega
    have ed : (nI (pw_rp c p 0 - 1) + 1) / 4 = nI (pw_rp c p 0 / 4) := by
      rw [nI_1, show pw_rp c p 0 - 1 + 1 = pw_rp c p 0 by omega]
      exact pk_div (d := 4) (by omega) (by decide) (by decide)
    rw [mX7_wall_L1, ed, if_pos (nI_le (by omega) (by omega))]
    rw [← e]
    exact ⟨_, K, D, L, M, rfl, hY⟩
  | j + 1, f + 1, k, K, D, L, M, h1, h2, hY => by
    obtain ⟨-, e2, e3, e4, -⟩ := pw_ew hw
    have hp := h.1
    have hlt := hw.1
    have hk : k < pw_rp c p 0 / 4 := by omega
    obtain ⟨a0, a1, a2, a3⟩ := pw_ec hw hk
    have b0 := h.2.2 (4 * k) (by omega)
    have b1 := h.2.2 (4 * k + 1) (by omega)
    have b2 := h.2.2 (4 * k + 2) (by omega)
    have ed : (nI (pw_rp c p 0 - 1) + 1) / 4 = nI (pw_rp c p 0 / 4) := by
      rw [nI_1, show pw_rp c p 0 - 1 + 1 = pw_rp c p 0 by omega]
      exact pk_div (d := 4) (by omega) (by decide) (by decide)
    have r0 : mw_rd C 36 (nI (4 * k)) = some (nI (c (4 * k))) := by rw [pw_rd (by omega) (by omega), h.2.1 _ (by omega)]
    have r1 : mw_rd C 36 (nI (4 * k + 1)) = some (nI (c (4 * k + 1))) := by rw [pw_rd (by omega) (by omega), h.2.1 _ (by omega)]
    have r2 : mw_rd C 36 (nI (4 * k + 2)) = some (nI (c (4 * k + 2))) := by rw [pw_rd (by omega) (by omega), h.2.1 _ (by omega)]
    have kb : mX7_kindBy (nI (c (4 * k))) = some (nI (pw_ko (c (4 * k)))) := by rw [pw_kb _ b0, if_pos a0]
    rw [mX7_wall_L1, ed, if_neg (nI_ge (by omega) (by omega)), pw_m4, nI_1, show nI (4 * k) + 2 = nI (4 * k + 2) from nI_add _ 2]
    simp (disch := omega) only [r0, r1, r2, kb, nI_1, pw_48 (show 48 ≤ c (4 * k + 1) by omega), pw_wr, pw_bs]
    by_cases q : c (4 * k + 2) = 45
    · rw [if_pos ((pw_e45 (by omega)).mpr q)]
      exact pw_k1L h hw kk j f (k + 1) _ _ _ _ (by omega) (by omega) (pw_ly_s hY rfl rfl (by unfold pw_le; rw [if_pos q]; rfl) rfl)
    · rw [if_neg (fun z => q ((pw_e45 (by omega)).mp z)), pw_48 (show 48 ≤ c (4 * k + 2) by omega)]
      refine pw_k1L h hw kk j f (k + 1) _ _ _ _ (by omega) (by omega) (pw_ly_s hY rfl rfl ?_ rfl)
      unfold pw_le
      rw [if_neg q, show c (4 * k + 2) - 47 = (c (4 * k + 2) - 48) + 1 by omega]
      rfl
theorem pw_k2L {p : Nat} {C : Nat → Int32} {c : Nat → Nat} (h : pw_P p C c) (hw : pw_isw p c) (kk : Int32 → (Nat → Int32) → Option pw_T14) : ∀ (j f k : Nat) (T : Nat → Int32), p - pw_rp c p 0 = k + j → j < f → pw_lr c (pw_rp c p 0) k T → ∃ z T', mX7_wall_L2 (nI p) C (nI (pw_rp c p 0 - 1)) kk f (nI k) T = kk z T' ∧ pw_lr c (pw_rp c p 0) (p - pw_rp c p 0) T'
  | 0, 0, k, T, _, h2, _ => absurd h2 (Nat.not_lt_zero 0)
  | j + 1, 0, k, T, _, h2, _ => absurd h2 (Nat.not_lt_zero _)
  | 0, f + 1, k, T, h1, h2, hY => by
    obtain ⟨-, e2, e3, e4, e5⟩ := pw_ew hw
    have hp := h.1
    have hlt := hw.1
    have e : k = p - pw_rp c p 0 := by omega
    have ed : nI p - nI (pw_rp c p 0 - 1) - 1 = nI (p - pw_rp c p 0) := by
      rw [pk_sub (by omega), show (1 : Int32) = nI 1 from rfl, pk_sub (by omega)]; congr 1; omega
    rw [mX7_wall_L2, ed, if_pos (nI_le (by omega) (by omega))]
    rw [← e]
    exact ⟨_, T, rfl, hY⟩
  | j + 1, f + 1, k, T, h1, h2, hY => by
    obtain ⟨-, e2, e3, e4, e5⟩ := pw_ew hw
    have hp := h.1
    have hlt := hw.1
    have a := pw_er hw (show k < p - pw_rp c p 0 by omega)
    have ed : nI p - nI (pw_rp c p 0 - 1) - 1 = nI (p - pw_rp c p 0) := by
      rw [pk_sub (by omega), show (1 : Int32) = nI 1 from rfl, pk_sub (by omega)]; congr 1; omega
    have r0 : mw_rd C 36 (nI (pw_rp c p 0 - 1) + 1 + nI k) = some (nI (c (pw_rp c p 0 + k))) := by
      rw [nI_1, pw_ad, show pw_rp c p 0 - 1 + 1 + k = pw_rp c p 0 + k by omega, pw_rd (by omega) (by omega), h.2.1 _ (by omega)]
    rw [mX7_wall_L2, ed, if_neg (nI_ge (by omega) (by omega)), r0, pw_bs, pw_48 a.1, pw_wr (by omega) (by omega), pw_bs, nI_1]
    exact pw_k2L h hw kk j f (k + 1) _ (by omega) (by omega) (pw_lr_s hY rfl)
theorem pw_m_wall {cc : Nat} {ik : Int32} {wr : Int32} {nd : Int32} {ps : Int32} {C : Nat → Int32} {br : Int32} {n_ : Int32} {K : Nat → Int32} {D : Nat → Int32} {L : Nat → Int32} {M : Nat → Int32} {ws : Int32} {nx_ : Int32} {T : Nat → Int32} {sq : Int32} {A : Nat → Int32} {R : Nat → Int32} {G : Nat → Int32} {kbr : Int32} {kn : Int32} {kK : Nat → Int32} {kD : Nat → Int32} {kL : Nat → Int32} {kM : Nat → Int32} {kws : Int32} {knx : Int32} {kT : Nat → Int32} {ksq : Int32} {kA : Nat → Int32} {kR : Nat → Int32} {kG : Nat → Int32} {pm : Int32} {C' : Nat → Int32} {cl : Int32} {rs : Int32} {wn : Int32} {br' : Int32} {wr' : Int32} {nd' : Int32} {sm : Int32} {kw : Int32} {kwk : Int32} {kbr' : Int32} {ks : Int32} {K' : Nat → Int32} {D' : Nat → Int32} {L' : Nat → Int32} {M' : Nat → Int32} {T' : Nat → Int32} {S : Nat → Int32} {kK' : Nat → Int32} {kD' : Nat → Int32} {kL' : Nat → Int32} {kM' : Nat → Int32} {kS : Nat → Int32} (h : pw_REL cc ik wr nd ps C br n_ K D L M ws nx_ T sq A R G kbr kn kK kD kL kM kws knx kT ksq kA kR kG pm C' cl rs wn br' wr' nd' sm kw kwk kbr' ks K' D' L' M' T' S kK' kD' kL' kM' kS) (hcc : cc < 2 ^ 20) (e0 : Int32) : ∃ r ik1 wr1 ps1 br1 n1 K1 D1 L1 M1 ws1 nx1 T1 sq1 pm1 e1 cl1 rs1 wn1 br1' wr1' sm1 K1' D1' L1' M1' T1', mX6_wall ik wr ps C br n_ K D L M ws nx_ T sq = some (r, ik1, wr1, ps1, br1, n1, K1, D1, L1, M1, ws1, nx1, T1, sq1) ∧ mX7_wall pm e0 cl rs wn br' wr' sm C' K' D' L' M' T' = some (r, pm1, e1, cl1, rs1, wn1, br1', wr1', sm1, K1', D1', L1', M1', T1') ∧ pw_REL (cc + 1) ik1 wr1 nd ps1 C br1 n1 K1 D1 L1 M1 ws1 nx1 T1 sq1 A R G kbr kn kK kD kL kM kws knx kT ksq kA kR kG pm1 C' cl1 rs1 wn1 br1' wr1' nd' sm1 kw kwk kbr' ks K1' D1' L1' M1' T1' S kK' kD' kL' kM' kS := by
  have hup := h.up
  obtain ⟨hp, n, w, rn, W, N, y, hN, ew, ew', hWc, en, en', hN2, ey, hk⟩ := h
  obtain ⟨p, c, rfl, rfl, hP, hP'⟩ := hp
  have hp36 := hP.1
  have hl := pw_rp_le c p 0
  have hfl := pw_fp_le c (pw_rp c p 0) p 0
  obtain ⟨bb, i1, i2⟩ := pw_IW hP
  obtain ⟨e, f1, f2⟩ := pw_FO7 hP' e0
  unfold mX6_wall mX7_wall
  rw [i1, pw_bs, f1, pw_n2]
  by_cases q : pw_isw p c
  · have hb : bb = true := i2.mpr q
    obtain ⟨w1, w2, w3, w4, w5⟩ := pw_ew q
    have he := f2 q.2
    rw [if_pos ⟨by omega, w1⟩] at he
    subst he
    obtain ⟨K1, D1, L1, M1, c1, c2⟩ := pw_CC (K := K) (D := D) (L := L) (M := M) hP q
    obtain ⟨T1, c3, c4⟩ := pw_CR (T := T) hP q
    have hlt := q.1
    rw [hb, pw_zt, if_neg pw_10, q.2, if_neg (nI_nlt (Nat.le_refl p) (by omega)), if_neg (nI_ne0 (by omega) (by omega)), nI_1, show pw_rp c p 0 - 1 + 1 = pw_rp c p 0 by omega, if_neg (show ¬ nI p = nI (pw_rp c p 0) from fun z => absurd ((nI_eq (by omega) (by omega)).mp z) (by omega))]
    have ed : nI (pw_rp c p 0) / 4 = nI (pw_rp c p 0 / 4) := pk_div (d := 4) (by omega) (by decide) (by decide)
    have ee : nI p - nI (pw_rp c p 0 - 1) - 1 = nI (p - pw_rp c p 0) := by
      rw [pk_sub (by omega), show (1 : Int32) = nI 1 from rfl, pk_sub (by omega)]; congr 1; omega
    have m1 := pw_k1L hP' q
    have m2 := pw_k2L hP' q
    unfold mX4_clear mX0_clear mX5_clear mX3_clear mX2_clear mX0_size
    simp only [pw_bs, pw_n2, pw_n5, c1, c3, ed, ee]
    obtain ⟨z1, K2, D2, L2, M2, g1, g2⟩ := m1 (fun (x2_1 : Int32) (y1 : Nat → Int32) (y2 : Nat → Int32) (y3 : Nat → Int32) (y4 : Nat → Int32) => mX7_wall_L2 (nI p) C' (nI (pw_rp c p 0 - 1)) (fun (x2_2 : Int32) (y5 : Nat → Int32) => some (nI (pw_rp c p 0 / 4), 0, nI (pw_rp c p 0 - 1), nI (pw_rp c p 0 / 4), nI (p - pw_rp c p 0), 0, 0, wr' + 1, 0, y1, y2, y3, y4, y5)) 300 0 T') (pw_rp c p 0 / 4) 300 0 K' D' L' M' (by omega) (by omega) (fun i hi => absurd hi (Nat.not_lt_zero i))
    obtain ⟨z2, T2, g3, g4⟩ := m2 (fun (x2_2 : Int32) (y5 : Nat → Int32) => some (nI (pw_rp c p 0 / 4), 0, nI (pw_rp c p 0 - 1), nI (pw_rp c p 0 / 4), nI (p - pw_rp c p 0), 0, 0, wr' + 1, 0, K2, D2, L2, M2, y5)) (p - pw_rp c p 0) 300 0 T' (by omega) (by omega) (fun i hi => absurd hi (Nat.not_lt_zero i))
    have a1 := pw_lyW q c2
    have a2 := pw_lyW q g2
    refine ⟨_, _, _, _, _, _, _, _, _, _, _, _, _, _, _, _, _, _, _, _, _, _, _, _, _, _, _, rfl, g1.trans g3, ?_⟩
    refine ⟨⟨0, c, rfl, rfl, ⟨by omega, fun i hi => absurd hi (Nat.not_lt_zero i), fun i hi => absurd hi (Nat.not_lt_zero i)⟩, ⟨by omega, fun i hi => absurd hi (Nat.not_lt_zero i), fun i hi => absurd hi (Nat.not_lt_zero i)⟩⟩, pw_rp c p 0 / 4, p - pw_rp c p 0, pw_ra c (pw_rp c p 0), W + 1, N, y, ?_, by rw [ew, nI_1], by rw [ew', nI_1], by omega, en, en', hN2, ey, Or.inr ⟨rfl, ?_⟩⟩
    · exact ⟨_, _, _, _, 0, 0, 0, fun _ => 0, fun _ => 0, fun _ => 0, rfl, rfl, rfl, rfl, rfl, rfl, rfl, rfl, rfl, rfl, by omega, by omega, a1.1, a2.1, a1.2, a2.2, Or.inr ⟨pw_lrR q c4, pw_lrR q g4⟩, by omega, fun i hi => absurd hi (Nat.not_lt_zero i)⟩
    · rcases hk with hk | hk
      · have := hk.2.1; omega
      · have := hk.2; omega
  · have hb : bb = false := by
      cases hbb : bb with
      | false => rfl
      | true => exact absurd (i2.mp hbb) q
    rw [hb, pw_zf, if_pos rfl]
    have hs : (if nI (pw_fp c (pw_rp c p 0) p 0) < nI p then some ((-103 : Int32), nI p, nI e, cl, rs, wn, br', wr', sm, K', D', L', M', T') else if nI e = 0 then some ((-103 : Int32), nI p, nI e, cl, rs, wn, br', wr', sm, K', D', L', M', T') else if nI p = nI e + 1 then some ((-103 : Int32), nI p, nI e, cl, rs, wn, br', wr', sm, K', D', L', M', T') else mX7_wall_L1 C' (nI e) (fun (x2_1 : Int32) (y1 : Nat → Int32) (y2 : Nat → Int32) (y3 : Nat → Int32) (y4 : Nat → Int32) => mX7_wall_L2 (nI p) C' (nI e) (fun (x2_2 : Int32) (y5 : Nat → Int32) => some ((nI e + 1) / 4, 0, nI e, (nI e + 1) / 4, (nI p - nI e) - 1, 0, 0, wr' + 1, 0, y1, y2, y3, y4, y5)) 300 0 T') 300 0 K' D' L' M') = some ((-103 : Int32), nI p, nI e, cl, rs, wn, br', wr', sm, K', D', L', M', T') := by
      by_cases q2 : pw_fp c (pw_rp c p 0) p 0 < p
      · rw [if_pos (nI_lt q2 (by omega))]
      · have q3 : pw_fp c (pw_rp c p 0) p 0 = p := by omega
        have q4 : ¬ pw_rp c p 0 < p := fun z => q ⟨z, q3⟩
        rw [if_neg (nI_nlt (by omega) (by omega))]
        have he := f2 q3
        by_cases q5 : 1 ≤ pw_rp c p 0 ∧ c (pw_rp c p 0 - 1) = 59
        · rw [if_pos q5] at he
          by_cases q6 : nI e = 0
          · rw [if_pos q6]
          · rw [if_neg q6, nI_1, if_pos (show nI p = nI (e + 1) by congr 1; omega)]
        · rw [if_neg q5] at he
          rw [if_pos (show nI e = 0 by rw [he]; rfl)]
    exact ⟨_, _, _, _, _, _, _, _, _, _, _, _, _, _, _, _, _, _, _, _, _, _, _, _, _, _, _, rfl, hs, hup⟩
