theorem mw_nl_in : ∀ w ∈ mw_nl.map (fun q => Cond.methodLinkNest q.1 q.2.1 q.2.2 RX6), w ∈ lw_tbl := mw_inp [446, 159, 161, 469, 78, 100, 116, 58, 72, 154] (by decide +kernel)
theorem mw_sr_in : Cond.stringRef RX2 34 "cdsfw" ∈ lw_tbl := List.mem_of_getElem? (i := 235) (by decide +kernel)
theorem mw_ls_in : Cond.laysStatic "java/lang/String" "COMPACT_STRINGS" "Z" ∈ lw_tbl := List.mem_of_getElem? (i := 249) (by decide +kernel)
theorem mw_is_in : Cond.initialized "java/lang/String" ∈ lw_tbl := List.mem_of_getElem? (i := 40) (by decide +kernel)
theorem mw_ev_of {s : State} {b : Nat} (hts0 : ∀ w ∈ lw_tbl, w.before #[Value.ref b] s = true) : ∃ (D : va_G) (cA : ClassId), mw_ev D cA s := by
  have hts : ∀ w ∈ wsL_law, w.before #[Value.ref b] s = true := fun w h => hts0 w (wsL_law_in w h)
  obtain ⟨cX0, iX0, hKX0⟩ := u_known (C := RX0) (T := TX0) (N := 5) (n := 5) hts inlX0 (hts (.instantiable RX0 5) (List.mem_append_left _ (List.mem_append_left _ (List.mem_append_left _ (List.mem_append_left _ (List.mem_append_left _ (List.mem_append_left _ (List.mem_append_left _ (List.mem_append_left _ (List.mem_append_left _ (List.mem_append_right _ (List.mem_append_left _ (List.mem_of_getElem? (i := 14) rfl)))))))))))))
  obtain ⟨cX1, iX1, hKX1⟩ := u_known (C := RX1) (T := TX1) (N := 5) (n := 5) hts inlX1 (hts (.instantiable RX1 5) (List.mem_append_left _ (List.mem_append_left _ (List.mem_append_left _ (List.mem_append_left _ (List.mem_append_left _ (List.mem_append_left _ (List.mem_append_left _ (List.mem_append_left _ (List.mem_append_left _ (List.mem_append_left _ (List.mem_of_getElem? (i := 22) rfl))))))))))))
  obtain ⟨cX2, iX2, hKX2⟩ := u_known (C := RX2) (T := TX2) (N := 2) (n := 2) hts inlX2 (hts (.instantiable RX2 2) (List.mem_append_left _ (List.mem_append_left _ (List.mem_append_left _ (List.mem_append_left _ (List.mem_append_left _ (List.mem_append_left _ (List.mem_append_left _ (List.mem_append_left _ (List.mem_append_left _ (List.mem_append_left _ (List.mem_of_getElem? (i := 13) rfl))))))))))))
  obtain ⟨cX3, iX3, hKX3⟩ := u_known (C := RX3) (T := TX3) (N := 4) (n := 4) hts inlX3 (hts (.instantiable RX3 4) (List.mem_append_left _ (List.mem_append_left _ (List.mem_append_left _ (List.mem_append_left _ (List.mem_append_left _ (List.mem_append_left _ (List.mem_append_left _ (List.mem_append_left _ (List.mem_append_left _ (List.mem_append_right _ (List.mem_append_left _ (List.mem_of_getElem? (i := 22) rfl)))))))))))))
  obtain ⟨cX4, iX4, hKX4⟩ := u_known (C := RX4) (T := TX4) (N := 4) (n := 4) hts inlX4 (hts (.instantiable RX4 4) (List.mem_append_left _ (List.mem_append_left _ (List.mem_append_left _ (List.mem_append_left _ (List.mem_append_left _ (List.mem_append_left _ (List.mem_append_left _ (List.mem_append_left _ (List.mem_append_left _ (List.mem_append_left _ (List.mem_of_getElem? (i := 17) rfl))))))))))))
  obtain ⟨cX5, iX5, hKX5⟩ := u_known (C := RX5) (T := TX5) (N := 3) (n := 3) hts inlX5 (hts (.instantiable RX5 3) (List.mem_append_left _ (List.mem_append_left _ (List.mem_append_left _ (List.mem_append_left _ (List.mem_append_left _ (List.mem_append_left _ (List.mem_append_left _ (List.mem_append_left _ (List.mem_append_left _ (List.mem_append_right _ (List.mem_append_left _ (List.mem_of_getElem? (i := 18) rfl)))))))))))))
  obtain ⟨cX6, iX6, hKX6⟩ := u_known (C := RX6) (T := TX6) (N := 7) (n := 7) hts inlX6 (hts (.instantiable RX6 7) (List.mem_append_left _ (List.mem_append_left _ (List.mem_append_left _ (List.mem_append_left _ (List.mem_append_left _ (List.mem_append_left _ (List.mem_append_left _ (List.mem_append_left _ (List.mem_append_left _ (List.mem_append_left _ (List.mem_of_getElem? (i := 1) rfl))))))))))))
  obtain ⟨cX7, iX7, hKX7⟩ := u_known (C := RX7) (T := TX7) (N := 29) (n := 29) hts inlX7 (hts (.instantiable RX7 29) (List.mem_append_left _ (List.mem_append_left _ (List.mem_append_left _ (List.mem_append_left _ (List.mem_append_left _ (List.mem_append_left _ (List.mem_append_left _ (List.mem_append_left _ (List.mem_append_left _ (List.mem_append_left _ (List.mem_of_getElem? (i := 4) rfl))))))))))))
  obtain ⟨cA, kA, comp, h1, h2, h3⟩ := Cond.arrayClass_spec (hts (.arrayClass .int) (List.mem_append_left _ (List.mem_append_left _ (List.mem_append_left _ (List.mem_append_left _ (List.mem_append_left _ (List.mem_append_left _ (List.mem_append_left _ (List.mem_append_left _ (List.mem_append_left _ (List.mem_append_right _ (List.mem_append_left _ (List.mem_of_getElem? (i := 7) rfl)))))))))))))
  refine ⟨(fun k => match k with | 0 => cX0 | 1 => cX1 | 2 => cX2 | 3 => cX3 | 4 => cX4 | 5 => cX5 | 6 => cX6 | _ => cX7, fun k => match k with | 0 => iX0 | 1 => iX1 | 2 => iX2 | 3 => iX3 | 4 => iX4 | 5 => iX5 | 6 => iX6 | _ => iX7), cA, ⟨fun k q hq => ?_, fun k q hq => ?_⟩, fun q hq => ?_⟩
  · match k, hq with
    | 0, hq => cases hq; exact hKX0
    | 1, hq => cases hq; exact hKX1
    | 2, hq => cases hq; exact hKX2
    | 3, hq => cases hq; exact hKX3
    | 4, hq => cases hq; exact hKX4
    | 5, hq => cases hq; exact hKX5
    | 6, hq => cases hq; exact hKX6
    | 7, hq => cases hq; exact hKX7
    | k + 8, hq => exact absurd hq (by simp)
  · match k, hq with
    | 0, hq => cases hq; exact ⟨fun n z => ⟨fun k h => (by cases h), kA, h2, comp, h3⟩, h1⟩
    | k + 1, hq => exact absurd hq (by simp)
  · exact va_Nw.of rfl (hts0 _ (mw_nl_in _ (List.mem_map.mpr ⟨q, hq, rfl⟩)))
theorem mw_sv_of {s : State} {b : Nat} (hts0 : ∀ w ∈ lw_tbl, w.before #[Value.ref b] s = true) (hgv : (Jvm.Cond.and given_1 narrow_1).before #[Value.ref b] s = true) : ∃ qk qv : Nat, mw_sv (fun q : Nat => s.heap.size ≤ q) qk qv s := by
  have hs := flat_of_before _ hgv
  have hA : ∀ a : Nat, a < s.heap.size → ¬ (fun q : Nat => s.heap.size ≤ q) a := fun a h => Nat.not_le.mpr h
  have j0 := hs (Cond.eq (.elem (.field (.string "MossWall$Page" 34) "java/lang/String" "value" "[B") (.int 0)) (.int 99)) (by decide +kernel)
  have j1 := hs (Cond.eq (.elem (.field (.string "MossWall$Page" 34) "java/lang/String" "value" "[B") (.int 1)) (.int 100)) (by decide +kernel)
  have j2 := hs (Cond.eq (.elem (.field (.string "MossWall$Page" 34) "java/lang/String" "value" "[B") (.int 2)) (.int 115)) (by decide +kernel)
  have j3 := hs (Cond.eq (.elem (.field (.string "MossWall$Page" 34) "java/lang/String" "value" "[B") (.int 3)) (.int 102)) (by decide +kernel)
  have j4 := hs (Cond.eq (.elem (.field (.string "MossWall$Page" 34) "java/lang/String" "value" "[B") (.int 4)) (.int 119)) (by decide +kernel)
  have k0 := hs (Cond.exactly (.string "MossWall$Page" 34) "java/lang/String") (by decide +kernel)
  have k1 := hs (Cond.eq (.field (.string "MossWall$Page" 34) "java/lang/String" "coder" "B") (.int 0)) (by decide +kernel)
  have k2 := hs (Cond.arrayOf (.field (.string "MossWall$Page" 34) "java/lang/String" "value" "[B") .byte) (by decide +kernel)
  have k3 := hs (Cond.eq (.length (.field (.string "MossWall$Page" 34) "java/lang/String" "value" "[B")) (.int 5)) (by decide +kernel)
  have k4 := hs (Cond.eq (.static "java/lang/String" "COMPACT_STRINGS" "Z") (.int 1)) (by decide +kernel)
  obtain ⟨adK, adV, h1, h2⟩ := vk_Sof (args := #[Value.ref b]) (s := s) (N := 1) (tm := fun _ => .string "MossWall$Page" 34) (len := [5]) (byt := [[99, 100, 115, 102, 119]]) (A := fun q : Nat => s.heap.size ≤ q) (fun i hi => by
      obtain rfl : i = 0 := by omega
      decide) (fun i hi => k0) (fun i hi => k1) (fun i hi => k2) (fun i hi => by
      obtain rfl : i = 0 := by omega
      exact k3) (fun i hi j hj => by
      obtain rfl : i = 0 := by omega
      match j, hj with
      | 0, _ => exact j0
      | 1, _ => exact j1
      | 2, _ => exact j2
      | 3, _ => exact j3
      | 4, _ => exact j4
      | j + 5, h => exact absurd h (show ¬ j + 5 < 5 by omega)) (fun i j hi hj hne => absurd (show i = j by omega) hne) hA
  have g := h1.1 0 (by decide)
  exact ⟨adK 0, adV 0, g.1, g.2.1, g.2.2.1, g.2.2.2, va_Zof (hts0 _ mw_ls_in) (hts0 _ mw_is_in) (va_eqi k4) hA, vk_R.of (hts0 _ mw_sr_in) (h2 0 (by decide))⟩
