def mX3_size (t_size : Int32) : Option Int32 :=
  some t_size
abbrev rmX3_size : Room := ({ frames := 0, cells := 0, slots := 0, locals := 0 } : Room)
set_option maxHeartbeats 4000000 in
set_option maxRecDepth 100000 in
theorem kX3_size (l : Launch) (D : va_G) (cA : ClassId) (t t_clauses t_rains t_growths : Nat) (t_size : Int32) (r : Int32) (hM : mX3_size t_size = some r) : Met l yX3_size wsX3_size rmX3_size (va_Pc [.ref t] (fun U => va_P D vwCl [(t, .inr (3, [.ref t_clauses, .ref t_rains, .ref t_growths, .int t_size]))] U.heap ∧ mw_ev D cA U)) (vp_Si (fun v => v = r)) 0 0 (fun _ => False) := by
  unfold mX3_size at hM
  refine Met.ofW (cc := cX3_size) (maxL := 1) (ret := (some .int)) (by decide) rfl ?_
  intro p e s m args below meth c s₁ B hml hv
  obtain ⟨rfl, hP, hE⟩ := hv
  have hx := B.exec
  have hb := B.bytes
  have hr := B.returns
  have hts := atoms_spec (ws := wsX3_size) B.pre
  have hown : s.vm.findClass RX3 = some m.cls := findClass_of_methodNamed B.named
  have hlocks := B.notSynchronized
  have hK := hE.1
  have hl := lv_entry ([.ref t]) (n := 1) (Nat.le_of_ble_eq_true rfl)
  rw [lg_entry_eq]
  generalize (lg_sl ([.ref t]) ++ List.replicate (1 - (lg_sl ([.ref t])).length) Slot.unset).toArray = ls at hl ⊢
  have hl : lv_has ls 1 [(0, .ref t)] := hl
  refine mw_q (P := fun Q => W p l e (headSpec wsX3_size rmX3_size).room s m (([.ref t] : List Value).toArray) below meth c s.heap [] 0 0 Q (F0 m 0 ls [])) (fun Q hQ => ?_)
  refine lv_aload_n hx hb dX3_size_0 rfl (lv_at hl 0 rfl) ?_
  refine va_get (D := D) (ci := 3) (v := .int t_size) (C := RX3) (T := TX3) (N := 4) hx hb hts (fun _ h => List.mem_cons_of_mem _ (List.mem_append_right _ (h))) hown hK hP 0 rfl rfl 3 (by decide) (hts (.fieldLink RX3 21 "MossWall$Seen" "size" "I") (List.mem_cons_of_mem _ (List.mem_append_left _ (List.mem_of_getElem? (i := 0) rfl)))) (fun _ h9 => h9) rfl dX3_size_1 ?_
  obtain rfl := mw_o1 hM
  subst hQ
  exact W.iret hx hb hr (fun t ht hW => ⟨_, rfl, rfl, ht⟩) (fun q h => absurd h List.not_mem_nil) dX3_size_4
def mX3_clear (t_size : Int32) : Option Int32 :=
  some 0
abbrev rmX3_clear : Room := ({ frames := 0, cells := 0, slots := 0, locals := 0 } : Room)
set_option maxHeartbeats 4000000 in
set_option maxRecDepth 100000 in
theorem kX3_clear (l : Launch) (D : va_G) (cA : ClassId) (t t_clauses t_rains t_growths : Nat) (sz : Nat) (t_size : Int32) (o_t_size : Int32) (hM : mX3_clear t_size = some o_t_size) : Met l yX3_clear wsX3_clear rmX3_clear (va_Pc [.ref t] (fun U => U.heap.size = sz ∧ va_P D vwCl [(t, .inr (3, [.ref t_clauses, .ref t_rains, .ref t_growths, .int t_size]))] U.heap ∧ mw_ev D cA U ∧ va_D (fun _ => True) [(t, .inr (3, [.ref t_clauses, .ref t_rains, .ref t_growths, .int t_size]))])) (va_Qv (fun (_ : Unit) => True) (fun (_ : Unit) w_ => va_P D vwCl [(t, .inr (3, [.ref t_clauses, .ref t_rains, .ref t_growths, .int o_t_size]))] w_.heap ∧ va_D (va_A [(t, .inr (3, [.ref t_clauses, .ref t_rains, .ref t_growths, .int t_size]))] sz) [(t, .inr (3, [.ref t_clauses, .ref t_rains, .ref t_growths, .int o_t_size]))]) (va_A [(t, .inr (3, [.ref t_clauses, .ref t_rains, .ref t_growths, .int t_size]))] sz)) 0 0 (va_A [(t, .inr (3, [.ref t_clauses, .ref t_rains, .ref t_growths, .int t_size]))] sz) := by
  unfold mX3_clear at hM
  refine Met.ofW (cc := cX3_clear) (maxL := 1) (ret := none) (by decide) rfl ?_
  intro p e s m args below meth c s₁ B hml hv
  obtain ⟨rfl, hsz, hP, hE, hD0⟩ := hv
  have hx := B.exec
  have hb := B.bytes
  have hr := B.returns
  have hts := atoms_spec (ws := wsX3_clear) B.pre
  have hown : s.vm.findClass RX3 = some m.cls := findClass_of_methodNamed B.named
  have hlocks := B.notSynchronized
  have hK := hE.1
  subst hsz
  have hD := hD0.self (sz := s.heap.size)
  generalize hAe : va_A [(t, .inr (3, [.ref t_clauses, .ref t_rains, .ref t_growths, .int t_size]))] s.heap.size = A at hD ⊢
  have hA : ∀ q : Nat, s.heap.size ≤ q → A q := fun q h => by rw [← hAe]; exact Or.inr h
  have hS : va_S A s.heap s.heap [] := va_S.rf
  have hl := lv_entry ([.ref t]) (n := 1) (Nat.le_of_ble_eq_true rfl)
  rw [lg_entry_eq]
  generalize (lg_sl ([.ref t]) ++ List.replicate (1 - (lg_sl ([.ref t])).length) Slot.unset).toArray = ls at hl ⊢
  have hl : lv_has ls 1 [(0, .ref t)] := hl
  refine mw_q (P := fun Q => W p l e (headSpec wsX3_clear rmX3_clear).room s m (([.ref t] : List Value).toArray) below meth c s.heap [] 0 0 Q (F0 m 0 ls [])) (fun Q hQ => ?_)
  refine lv_aload_n hx hb dX3_clear_0 rfl (lv_at hl 0 rfl) ?_
  refine lv_iconst (v := 0) hx hb dX3_clear_1 (by decide) ?_
  refine va_put (D := D) (ci := 3) (v := .int 0) (ty := .int) (C := RX3) (T := TX3) (N := 4) hx hb hts (fun _ h => List.mem_cons_of_mem _ (List.mem_append_right _ (h))) tyX3 tyX3_ok nmX3 hown hK hP hD hS 0 rfl rfl 3 (by decide) (hts (.fieldLink RX3 21 "MossWall$Seen" "size" "I") (List.mem_cons_of_mem _ (List.mem_append_left _ (List.mem_of_getElem? (i := 0) rfl)))) (fun _ h9 => h9) rfl (by decide +kernel) rfl rfl (Nat.le_of_ble_eq_true rfl) dX3_clear_2 (fun H locs hP hD hS => ?_)
  have hP : va_P D vwCl [(t, .inr (3, [.ref t_clauses, .ref t_rains, .ref t_growths, .int 0]))] H := hP
  have hD : va_D A [(t, .inr (3, [.ref t_clauses, .ref t_rains, .ref t_growths, .int 0]))] := hD
  obtain rfl := mw_o1 hM
  subst hQ
  exact W.vret hx hb hr (fun t ht hW => ⟨⟨(), rfl, trivial, by rw [ht]; exact hP, hD⟩, hS.F ht⟩) hS.2.2 dX3_clear_5
def mX3_add (t_size : Int32) (c_t_clauses : Nat → Int32) (c_t_rains : Nat → Int32) (c_t_growths : Nat → Int32) (p1 : Int32) (p2 : Int32) (p3 : Int32) : Option (Int32 × (Nat → Int32) × (Nat → Int32) × (Nat → Int32)) :=
  (if 6 ≤ t_size then some (t_size, c_t_clauses, c_t_rains, c_t_growths) else (mw_wr c_t_clauses 6 t_size p1).bind fun a2_clauses => (mw_wr c_t_rains 6 t_size p2).bind fun a3_rains => (mw_wr c_t_growths 6 t_size p3).bind fun a4_growths => some (t_size + 1, a2_clauses, a3_rains, a4_growths))
abbrev rmX3_add : Room := ({ frames := 0, cells := 0, slots := 0, locals := 0 } : Room)
set_option maxHeartbeats 4000000 in
set_option maxRecDepth 100000 in
theorem kX3_add (l : Launch) (D : va_G) (cA : ClassId) (t t_clauses t_rains t_growths : Nat) (sz : Nat) (t_size : Int32) (c_t_clauses : Nat → Int32) (c_t_rains : Nat → Int32) (c_t_growths : Nat → Int32) (p1 : Int32) (p2 : Int32) (p3 : Int32) (o_t_size : Int32) (o_c_t_clauses : Nat → Int32) (o_c_t_rains : Nat → Int32) (o_c_t_growths : Nat → Int32) (hM : mX3_add t_size c_t_clauses c_t_rains c_t_growths p1 p2 p3 = some (o_t_size, o_c_t_clauses, o_c_t_rains, o_c_t_growths)) : Met l yX3_add wsX3_add rmX3_add (va_Pc [.ref t, .int p1, .int p2, .int p3] (fun U => U.heap.size = sz ∧ va_P D vwCl [(t, .inr (3, [.ref t_clauses, .ref t_rains, .ref t_growths, .int t_size])), (t_clauses, .inl (cA, 6, .inl c_t_clauses)), (t_rains, .inl (cA, 6, .inl c_t_rains)), (t_growths, .inl (cA, 6, .inl c_t_growths))] U.heap ∧ mw_ev D cA U ∧ va_D (fun _ => True) [(t, .inr (3, [.ref t_clauses, .ref t_rains, .ref t_growths, .int t_size])), (t_clauses, .inl (cA, 6, .inl c_t_clauses)), (t_rains, .inl (cA, 6, .inl c_t_rains)), (t_growths, .inl (cA, 6, .inl c_t_growths))])) (va_Qv (fun (_ : Unit) => True) (fun (_ : Unit) w_ => va_P D vwCl [(t, .inr (3, [.ref t_clauses, .ref t_rains, .ref t_growths, .int o_t_size])), (t_clauses, .inl (cA, 6, .inl o_c_t_clauses)), (t_rains, .inl (cA, 6, .inl o_c_t_rains)), (t_growths, .inl (cA, 6, .inl o_c_t_growths))] w_.heap ∧ va_D (va_A [(t, .inr (3, [.ref t_clauses, .ref t_rains, .ref t_growths, .int t_size])), (t_clauses, .inl (cA, 6, .inl c_t_clauses)), (t_rains, .inl (cA, 6, .inl c_t_rains)), (t_growths, .inl (cA, 6, .inl c_t_growths))] sz) [(t, .inr (3, [.ref t_clauses, .ref t_rains, .ref t_growths, .int o_t_size])), (t_clauses, .inl (cA, 6, .inl o_c_t_clauses)), (t_rains, .inl (cA, 6, .inl o_c_t_rains)), (t_growths, .inl (cA, 6, .inl o_c_t_growths))]) (va_A [(t, .inr (3, [.ref t_clauses, .ref t_rains, .ref t_growths, .int t_size])), (t_clauses, .inl (cA, 6, .inl c_t_clauses)), (t_rains, .inl (cA, 6, .inl c_t_rains)), (t_growths, .inl (cA, 6, .inl c_t_growths))] sz)) 0 0 (va_A [(t, .inr (3, [.ref t_clauses, .ref t_rains, .ref t_growths, .int t_size])), (t_clauses, .inl (cA, 6, .inl c_t_clauses)), (t_rains, .inl (cA, 6, .inl c_t_rains)), (t_growths, .inl (cA, 6, .inl c_t_growths))] sz) := by
  unfold mX3_add at hM
  refine Met.ofW (cc := cX3_add) (maxL := 4) (ret := none) (by decide) rfl ?_
  intro p e s m args below meth c s₁ B hml hv
  obtain ⟨rfl, hsz, hP, hE, hD0⟩ := hv
  have hx := B.exec
  have hb := B.bytes
  have hr := B.returns
  have hts := atoms_spec (ws := wsX3_add) B.pre
  have hown : s.vm.findClass RX3 = some m.cls := findClass_of_methodNamed B.named
  have hlocks := B.notSynchronized
  have hK := hE.1
  subst hsz
  have hD := hD0.self (sz := s.heap.size)
  generalize hAe : va_A [(t, .inr (3, [.ref t_clauses, .ref t_rains, .ref t_growths, .int t_size])), (t_clauses, .inl (cA, 6, .inl c_t_clauses)), (t_rains, .inl (cA, 6, .inl c_t_rains)), (t_growths, .inl (cA, 6, .inl c_t_growths))] s.heap.size = A at hD ⊢
  have hA : ∀ q : Nat, s.heap.size ≤ q → A q := fun q h => by rw [← hAe]; exact Or.inr h
  have hS : va_S A s.heap s.heap [] := va_S.rf
  have hl := lv_entry ([.ref t, .int p1, .int p2, .int p3]) (n := 4) (Nat.le_of_ble_eq_true rfl)
  rw [lg_entry_eq]
  generalize (lg_sl ([.ref t, .int p1, .int p2, .int p3]) ++ List.replicate (4 - (lg_sl ([.ref t, .int p1, .int p2, .int p3])).length) Slot.unset).toArray = ls at hl ⊢
  have hl : lv_has ls 4 [(0, .ref t), (1, .int p1), (2, .int p2), (3, .int p3)] := hl
  refine mw_q (P := fun Q => W p l e (headSpec wsX3_add rmX3_add).room s m (([.ref t, .int p1, .int p2, .int p3] : List Value).toArray) below meth c s.heap [] 0 0 Q (F0 m 0 ls [])) (fun Q hQ => ?_)
  refine lv_aload_n hx hb dX3_add_0 rfl (lv_at hl 0 rfl) ?_
  refine va_get (D := D) (ci := 3) (v := .int t_size) (C := RX3) (T := TX3) (N := 4) hx hb hts (fun _ h => List.mem_cons_of_mem _ (List.mem_append_right _ (h))) hown hK hP 0 rfl rfl 3 (by decide) (hts (.fieldLink RX3 21 "MossWall$Seen" "size" "I") (List.mem_cons_of_mem _ (List.mem_append_left _ (List.mem_of_getElem? (i := 0) rfl)))) (fun _ h9 => h9) rfl dX3_add_1 ?_
  refine lv_bipush (v := 6) hx hb dX3_add_4 (by decide) ?_
  refine lv_icmp_ge (tgt := 49) hx hb dX3_add_6 (by decide) (fun q1 => ?_) (fun q1 => ?_)
  · replace hM := mw_t hM q1
    obtain ⟨rfl, rfl, rfl, rfl⟩ := mw_o4 hM
    subst hQ
    exact W.vret hx hb hr (fun t ht hW => ⟨⟨(), rfl, trivial, by rw [ht]; exact hP, hD⟩, hS.F ht⟩) hS.2.2 dX3_add_49
  · replace hM := mw_f hM q1
    refine lv_aload_n hx hb dX3_add_9 rfl (lv_at hl 0 rfl) ?_
    refine va_get (D := D) (ci := 3) (v := .ref t_clauses) (C := RX3) (T := TX3) (N := 4) hx hb hts (fun _ h => List.mem_cons_of_mem _ (List.mem_append_right _ (h))) hown hK hP 0 rfl rfl 0 (by decide) (hts (.fieldLink RX3 9 "MossWall$Seen" "clauses" "[I") (List.mem_cons_of_mem _ (List.mem_append_left _ (List.mem_of_getElem? (i := 1) rfl)))) (fun _ h9 => h9) rfl dX3_add_10 ?_
    refine lv_aload_n hx hb dX3_add_13 rfl (lv_at hl 0 rfl) ?_
    refine va_get (D := D) (ci := 3) (v := .int t_size) (C := RX3) (T := TX3) (N := 4) hx hb hts (fun _ h => List.mem_cons_of_mem _ (List.mem_append_right _ (h))) hown hK hP 0 rfl rfl 3 (by decide) (hts (.fieldLink RX3 21 "MossWall$Seen" "size" "I") (List.mem_cons_of_mem _ (List.mem_append_left _ (List.mem_of_getElem? (i := 0) rfl)))) (fun _ h9 => h9) rfl dX3_add_14 ?_
    refine lv_iload_n hx hb dX3_add_17 rfl (lv_at hl 1 rfl) ?_
    obtain ⟨a2_clauses, h2, hM⟩ := mw_d1 hM
    refine mw_iast hx hb hK hP hD hS 1 0 rfl rfl h2 dX3_add_18 (fun H locs hP hD hS => ?_)
    have hP : va_P D vwCl [(t, .inr (3, [.ref t_clauses, .ref t_rains, .ref t_growths, .int t_size])), (t_clauses, .inl (cA, 6, .inl a2_clauses)), (t_rains, .inl (cA, 6, .inl c_t_rains)), (t_growths, .inl (cA, 6, .inl c_t_growths))] H := hP
    have hD : va_D A [(t, .inr (3, [.ref t_clauses, .ref t_rains, .ref t_growths, .int t_size])), (t_clauses, .inl (cA, 6, .inl a2_clauses)), (t_rains, .inl (cA, 6, .inl c_t_rains)), (t_growths, .inl (cA, 6, .inl c_t_growths))] := hD
    refine lv_aload_n hx hb dX3_add_19 rfl (lv_at hl 0 rfl) ?_
    refine va_get (D := D) (ci := 3) (v := .ref t_rains) (C := RX3) (T := TX3) (N := 4) hx hb hts (fun _ h => List.mem_cons_of_mem _ (List.mem_append_right _ (h))) hown hK hP 0 rfl rfl 1 (by decide) (hts (.fieldLink RX3 15 "MossWall$Seen" "rains" "[I") (List.mem_cons_of_mem _ (List.mem_append_left _ (List.mem_of_getElem? (i := 2) rfl)))) (fun _ h9 => h9) rfl dX3_add_20 ?_
    refine lv_aload_n hx hb dX3_add_23 rfl (lv_at hl 0 rfl) ?_
    refine va_get (D := D) (ci := 3) (v := .int t_size) (C := RX3) (T := TX3) (N := 4) hx hb hts (fun _ h => List.mem_cons_of_mem _ (List.mem_append_right _ (h))) hown hK hP 0 rfl rfl 3 (by decide) (hts (.fieldLink RX3 21 "MossWall$Seen" "size" "I") (List.mem_cons_of_mem _ (List.mem_append_left _ (List.mem_of_getElem? (i := 0) rfl)))) (fun _ h9 => h9) rfl dX3_add_24 ?_
    refine lv_iload_n hx hb dX3_add_27 rfl (lv_at hl 2 rfl) ?_
    obtain ⟨a3_rains, h3, hM⟩ := mw_d1 hM
    refine mw_iast hx hb hK hP hD hS 2 0 rfl rfl h3 dX3_add_28 (fun H locs hP hD hS => ?_)
    have hP : va_P D vwCl [(t, .inr (3, [.ref t_clauses, .ref t_rains, .ref t_growths, .int t_size])), (t_clauses, .inl (cA, 6, .inl a2_clauses)), (t_rains, .inl (cA, 6, .inl a3_rains)), (t_growths, .inl (cA, 6, .inl c_t_growths))] H := hP
    have hD : va_D A [(t, .inr (3, [.ref t_clauses, .ref t_rains, .ref t_growths, .int t_size])), (t_clauses, .inl (cA, 6, .inl a2_clauses)), (t_rains, .inl (cA, 6, .inl a3_rains)), (t_growths, .inl (cA, 6, .inl c_t_growths))] := hD
    refine lv_aload_n hx hb dX3_add_29 rfl (lv_at hl 0 rfl) ?_
    refine va_get (D := D) (ci := 3) (v := .ref t_growths) (C := RX3) (T := TX3) (N := 4) hx hb hts (fun _ h => List.mem_cons_of_mem _ (List.mem_append_right _ (h))) hown hK hP 0 rfl rfl 2 (by decide) (hts (.fieldLink RX3 18 "MossWall$Seen" "growths" "[I") (List.mem_cons_of_mem _ (List.mem_append_left _ (List.mem_of_getElem? (i := 3) rfl)))) (fun _ h9 => h9) rfl dX3_add_30 ?_
    refine lv_aload_n hx hb dX3_add_33 rfl (lv_at hl 0 rfl) ?_
    refine va_get (D := D) (ci := 3) (v := .int t_size) (C := RX3) (T := TX3) (N := 4) hx hb hts (fun _ h => List.mem_cons_of_mem _ (List.mem_append_right _ (h))) hown hK hP 0 rfl rfl 3 (by decide) (hts (.fieldLink RX3 21 "MossWall$Seen" "size" "I") (List.mem_cons_of_mem _ (List.mem_append_left _ (List.mem_of_getElem? (i := 0) rfl)))) (fun _ h9 => h9) rfl dX3_add_34 ?_
    refine lv_iload_n hx hb dX3_add_37 rfl (lv_at hl 3 rfl) ?_
    obtain ⟨a4_growths, h4, hM⟩ := mw_d1 hM
    refine mw_iast hx hb hK hP hD hS 3 0 rfl rfl h4 dX3_add_38 (fun H locs hP hD hS => ?_)
    have hP : va_P D vwCl [(t, .inr (3, [.ref t_clauses, .ref t_rains, .ref t_growths, .int t_size])), (t_clauses, .inl (cA, 6, .inl a2_clauses)), (t_rains, .inl (cA, 6, .inl a3_rains)), (t_growths, .inl (cA, 6, .inl a4_growths))] H := hP
    have hD : va_D A [(t, .inr (3, [.ref t_clauses, .ref t_rains, .ref t_growths, .int t_size])), (t_clauses, .inl (cA, 6, .inl a2_clauses)), (t_rains, .inl (cA, 6, .inl a3_rains)), (t_growths, .inl (cA, 6, .inl a4_growths))] := hD
    refine lv_aload_n hx hb dX3_add_39 rfl (lv_at hl 0 rfl) ?_
    refine lv_dup hx hb dX3_add_40 rfl ?_
    refine va_get (D := D) (ci := 3) (v := .int t_size) (C := RX3) (T := TX3) (N := 4) hx hb hts (fun _ h => List.mem_cons_of_mem _ (List.mem_append_right _ (h))) hown hK hP 0 rfl rfl 3 (by decide) (hts (.fieldLink RX3 21 "MossWall$Seen" "size" "I") (List.mem_cons_of_mem _ (List.mem_append_left _ (List.mem_of_getElem? (i := 0) rfl)))) (fun _ h9 => h9) rfl dX3_add_41 ?_
    refine lv_iconst (v := 1) hx hb dX3_add_44 (by decide) ?_
    refine lv_iadd hx hb dX3_add_45 ?_
    refine va_put (D := D) (ci := 3) (v := .int (t_size + 1)) (ty := .int) (C := RX3) (T := TX3) (N := 4) hx hb hts (fun _ h => List.mem_cons_of_mem _ (List.mem_append_right _ (h))) tyX3 tyX3_ok nmX3 hown hK hP hD hS 0 rfl rfl 3 (by decide) (hts (.fieldLink RX3 21 "MossWall$Seen" "size" "I") (List.mem_cons_of_mem _ (List.mem_append_left _ (List.mem_of_getElem? (i := 0) rfl)))) (fun _ h9 => h9) rfl (by decide +kernel) rfl rfl (Nat.le_of_ble_eq_true rfl) dX3_add_46 (fun H locs hP hD hS => ?_)
    have hP : va_P D vwCl [(t, .inr (3, [.ref t_clauses, .ref t_rains, .ref t_growths, .int (t_size + 1)])), (t_clauses, .inl (cA, 6, .inl a2_clauses)), (t_rains, .inl (cA, 6, .inl a3_rains)), (t_growths, .inl (cA, 6, .inl a4_growths))] H := hP
    have hD : va_D A [(t, .inr (3, [.ref t_clauses, .ref t_rains, .ref t_growths, .int (t_size + 1)])), (t_clauses, .inl (cA, 6, .inl a2_clauses)), (t_rains, .inl (cA, 6, .inl a3_rains)), (t_growths, .inl (cA, 6, .inl a4_growths))] := hD
    obtain ⟨rfl, rfl, rfl, rfl⟩ := mw_o4 hM
    subst hQ
    exact W.vret hx hb hr (fun t ht hW => ⟨⟨(), rfl, trivial, by rw [ht]; exact hP, hD⟩, hS.F ht⟩) hS.2.2 dX3_add_49
def mX3_copyFrom (t_size : Int32) (c_t_clauses : Nat → Int32) (c_t_rains : Nat → Int32) (c_t_growths : Nat → Int32) (p1_size : Int32) (c_p1_clauses : Nat → Int32) (c_p1_rains : Nat → Int32) (c_p1_growths : Nat → Int32) : Option (Int32 × (Nat → Int32) × (Nat → Int32) × (Nat → Int32)) :=
  some (p1_size, va_cpy c_p1_clauses c_t_clauses 0 0 6, va_cpy c_p1_rains c_t_rains 0 0 6, va_cpy c_p1_growths c_t_growths 0 0 6)
abbrev rmX3_copyFrom : Room := ({ frames := 1, cells := 0, slots := 0, locals := 18 } : Room)
set_option maxHeartbeats 4000000 in
set_option maxRecDepth 100000 in
theorem kX3_copyFrom (l : Launch) (D : va_G) (cA : ClassId) (t p1 t_clauses t_rains t_growths p1_clauses p1_rains p1_growths : Nat) (sz : Nat) (t_size : Int32) (c_t_clauses : Nat → Int32) (c_t_rains : Nat → Int32) (c_t_growths : Nat → Int32) (p1_size : Int32) (c_p1_clauses : Nat → Int32) (c_p1_rains : Nat → Int32) (c_p1_growths : Nat → Int32) (o_t_size : Int32) (o_c_t_clauses : Nat → Int32) (o_c_t_rains : Nat → Int32) (o_c_t_growths : Nat → Int32) (hM : mX3_copyFrom t_size c_t_clauses c_t_rains c_t_growths p1_size c_p1_clauses c_p1_rains c_p1_growths = some (o_t_size, o_c_t_clauses, o_c_t_rains, o_c_t_growths)) : Met l yX3_copyFrom wsX3_copyFrom rmX3_copyFrom (va_Pc [.ref t, .ref p1] (fun U => U.heap.size = sz ∧ va_P D vwCl [(t, .inr (3, [.ref t_clauses, .ref t_rains, .ref t_growths, .int t_size])), (t_clauses, .inl (cA, 6, .inl c_t_clauses)), (t_rains, .inl (cA, 6, .inl c_t_rains)), (t_growths, .inl (cA, 6, .inl c_t_growths)), (p1, .inr (3, [.ref p1_clauses, .ref p1_rains, .ref p1_growths, .int p1_size])), (p1_clauses, .inl (cA, 6, .inl c_p1_clauses)), (p1_rains, .inl (cA, 6, .inl c_p1_rains)), (p1_growths, .inl (cA, 6, .inl c_p1_growths))] U.heap ∧ mw_ev D cA U ∧ va_D (fun _ => True) [(t, .inr (3, [.ref t_clauses, .ref t_rains, .ref t_growths, .int t_size])), (t_clauses, .inl (cA, 6, .inl c_t_clauses)), (t_rains, .inl (cA, 6, .inl c_t_rains)), (t_growths, .inl (cA, 6, .inl c_t_growths)), (p1, .inr (3, [.ref p1_clauses, .ref p1_rains, .ref p1_growths, .int p1_size])), (p1_clauses, .inl (cA, 6, .inl c_p1_clauses)), (p1_rains, .inl (cA, 6, .inl c_p1_rains)), (p1_growths, .inl (cA, 6, .inl c_p1_growths))])) (va_Qv (fun (_ : Unit) => True) (fun (_ : Unit) w_ => va_P D vwCl [(t, .inr (3, [.ref t_clauses, .ref t_rains, .ref t_growths, .int o_t_size])), (t_clauses, .inl (cA, 6, .inl o_c_t_clauses)), (t_rains, .inl (cA, 6, .inl o_c_t_rains)), (t_growths, .inl (cA, 6, .inl o_c_t_growths)), (p1, .inr (3, [.ref p1_clauses, .ref p1_rains, .ref p1_growths, .int p1_size])), (p1_clauses, .inl (cA, 6, .inl c_p1_clauses)), (p1_rains, .inl (cA, 6, .inl c_p1_rains)), (p1_growths, .inl (cA, 6, .inl c_p1_growths))] w_.heap ∧ va_D (va_A [(t, .inr (3, [.ref t_clauses, .ref t_rains, .ref t_growths, .int t_size])), (t_clauses, .inl (cA, 6, .inl c_t_clauses)), (t_rains, .inl (cA, 6, .inl c_t_rains)), (t_growths, .inl (cA, 6, .inl c_t_growths)), (p1, .inr (3, [.ref p1_clauses, .ref p1_rains, .ref p1_growths, .int p1_size])), (p1_clauses, .inl (cA, 6, .inl c_p1_clauses)), (p1_rains, .inl (cA, 6, .inl c_p1_rains)), (p1_growths, .inl (cA, 6, .inl c_p1_growths))] sz) [(t, .inr (3, [.ref t_clauses, .ref t_rains, .ref t_growths, .int o_t_size])), (t_clauses, .inl (cA, 6, .inl o_c_t_clauses)), (t_rains, .inl (cA, 6, .inl o_c_t_rains)), (t_growths, .inl (cA, 6, .inl o_c_t_growths)), (p1, .inr (3, [.ref p1_clauses, .ref p1_rains, .ref p1_growths, .int p1_size])), (p1_clauses, .inl (cA, 6, .inl c_p1_clauses)), (p1_rains, .inl (cA, 6, .inl c_p1_rains)), (p1_growths, .inl (cA, 6, .inl c_p1_growths))]) (va_A [(t, .inr (3, [.ref t_clauses, .ref t_rains, .ref t_growths, .int t_size])), (t_clauses, .inl (cA, 6, .inl c_t_clauses)), (t_rains, .inl (cA, 6, .inl c_t_rains)), (t_growths, .inl (cA, 6, .inl c_t_growths)), (p1, .inr (3, [.ref p1_clauses, .ref p1_rains, .ref p1_growths, .int p1_size])), (p1_clauses, .inl (cA, 6, .inl c_p1_clauses)), (p1_rains, .inl (cA, 6, .inl c_p1_rains)), (p1_growths, .inl (cA, 6, .inl c_p1_growths))] sz)) 0 0 (va_A [(t, .inr (3, [.ref t_clauses, .ref t_rains, .ref t_growths, .int t_size])), (t_clauses, .inl (cA, 6, .inl c_t_clauses)), (t_rains, .inl (cA, 6, .inl c_t_rains)), (t_growths, .inl (cA, 6, .inl c_t_growths)), (p1, .inr (3, [.ref p1_clauses, .ref p1_rains, .ref p1_growths, .int p1_size])), (p1_clauses, .inl (cA, 6, .inl c_p1_clauses)), (p1_rains, .inl (cA, 6, .inl c_p1_rains)), (p1_growths, .inl (cA, 6, .inl c_p1_growths))] sz) := by
  unfold mX3_copyFrom at hM
  refine Met.ofW (cc := cX3_copyFrom) (maxL := 2) (ret := none) (by decide) rfl ?_
  intro p e s m args below meth c s₁ B hml hv
  obtain ⟨rfl, hsz, hP, hE, hD0⟩ := hv
  have hx := B.exec
  have hb := B.bytes
  have hr := B.returns
  have hts := atoms_spec (ws := wsX3_copyFrom) B.pre
  have hown : s.vm.findClass RX3 = some m.cls := findClass_of_methodNamed B.named
  have hlocks := B.notSynchronized
  have hK := hE.1
  subst hsz
  have hD := hD0.self (sz := s.heap.size)
  generalize hAe : va_A [(t, .inr (3, [.ref t_clauses, .ref t_rains, .ref t_growths, .int t_size])), (t_clauses, .inl (cA, 6, .inl c_t_clauses)), (t_rains, .inl (cA, 6, .inl c_t_rains)), (t_growths, .inl (cA, 6, .inl c_t_growths)), (p1, .inr (3, [.ref p1_clauses, .ref p1_rains, .ref p1_growths, .int p1_size])), (p1_clauses, .inl (cA, 6, .inl c_p1_clauses)), (p1_rains, .inl (cA, 6, .inl c_p1_rains)), (p1_growths, .inl (cA, 6, .inl c_p1_growths))] s.heap.size = A at hD ⊢
  have hA : ∀ q : Nat, s.heap.size ≤ q → A q := fun q h => by rw [← hAe]; exact Or.inr h
  have hS : va_S A s.heap s.heap [] := va_S.rf
  have hl := lv_entry ([.ref t, .ref p1]) (n := 2) (Nat.le_of_ble_eq_true rfl)
  rw [lg_entry_eq]
  generalize (lg_sl ([.ref t, .ref p1]) ++ List.replicate (2 - (lg_sl ([.ref t, .ref p1])).length) Slot.unset).toArray = ls at hl ⊢
  have hl : lv_has ls 2 [(0, .ref t), (1, .ref p1)] := hl
  refine mw_q (P := fun Q => W p l e (headSpec wsX3_copyFrom rmX3_copyFrom).room s m (([.ref t, .ref p1] : List Value).toArray) below meth c s.heap [] 0 0 Q (F0 m 0 ls [])) (fun Q hQ => ?_)
  refine lv_aload_n hx hb dX3_copyFrom_0 rfl (lv_at hl 1 rfl) ?_
  refine lv_ifnonnull (tgt := 5) hx hb dX3_copyFrom_1 (by decide) ?_
  refine lv_aload_n hx hb dX3_copyFrom_5 rfl (lv_at hl 0 rfl) ?_
  refine lv_aload_n hx hb dX3_copyFrom_6 rfl (lv_at hl 1 rfl) ?_
  refine va_get (D := D) (ci := 3) (v := .int p1_size) (C := RX3) (T := TX3) (N := 4) hx hb hts (fun _ h => List.mem_cons_of_mem _ (List.mem_append_right _ (h))) hown hK hP 4 rfl rfl 3 (by decide) (hts (.fieldLink RX3 21 "MossWall$Seen" "size" "I") (List.mem_cons_of_mem _ (List.mem_append_left _ (List.mem_of_getElem? (i := 0) rfl)))) (fun _ h9 => h9) rfl dX3_copyFrom_7 ?_
  refine va_put (D := D) (ci := 3) (v := .int p1_size) (ty := .int) (C := RX3) (T := TX3) (N := 4) hx hb hts (fun _ h => List.mem_cons_of_mem _ (List.mem_append_right _ (h))) tyX3 tyX3_ok nmX3 hown hK hP hD hS 0 rfl rfl 3 (by decide) (hts (.fieldLink RX3 21 "MossWall$Seen" "size" "I") (List.mem_cons_of_mem _ (List.mem_append_left _ (List.mem_of_getElem? (i := 0) rfl)))) (fun _ h9 => h9) rfl (by decide +kernel) rfl rfl (Nat.le_of_ble_eq_true rfl) dX3_copyFrom_10 (fun H locs hP hD hS => ?_)
  have hP : va_P D vwCl [(t, .inr (3, [.ref t_clauses, .ref t_rains, .ref t_growths, .int p1_size])), (t_clauses, .inl (cA, 6, .inl c_t_clauses)), (t_rains, .inl (cA, 6, .inl c_t_rains)), (t_growths, .inl (cA, 6, .inl c_t_growths)), (p1, .inr (3, [.ref p1_clauses, .ref p1_rains, .ref p1_growths, .int p1_size])), (p1_clauses, .inl (cA, 6, .inl c_p1_clauses)), (p1_rains, .inl (cA, 6, .inl c_p1_rains)), (p1_growths, .inl (cA, 6, .inl c_p1_growths))] H := hP
  have hD : va_D A [(t, .inr (3, [.ref t_clauses, .ref t_rains, .ref t_growths, .int p1_size])), (t_clauses, .inl (cA, 6, .inl c_t_clauses)), (t_rains, .inl (cA, 6, .inl c_t_rains)), (t_growths, .inl (cA, 6, .inl c_t_growths)), (p1, .inr (3, [.ref p1_clauses, .ref p1_rains, .ref p1_growths, .int p1_size])), (p1_clauses, .inl (cA, 6, .inl c_p1_clauses)), (p1_rains, .inl (cA, 6, .inl c_p1_rains)), (p1_growths, .inl (cA, 6, .inl c_p1_growths))] := hD
  refine lv_aload_n hx hb dX3_copyFrom_13 rfl (lv_at hl 1 rfl) ?_
  refine va_get (D := D) (ci := 3) (v := .ref p1_clauses) (C := RX3) (T := TX3) (N := 4) hx hb hts (fun _ h => List.mem_cons_of_mem _ (List.mem_append_right _ (h))) hown hK hP 4 rfl rfl 0 (by decide) (hts (.fieldLink RX3 9 "MossWall$Seen" "clauses" "[I") (List.mem_cons_of_mem _ (List.mem_append_left _ (List.mem_of_getElem? (i := 1) rfl)))) (fun _ h9 => h9) rfl dX3_copyFrom_14 ?_
  refine lv_iconst (v := 0) hx hb dX3_copyFrom_17 (by decide) ?_
  refine lv_aload_n hx hb dX3_copyFrom_18 rfl (lv_at hl 0 rfl) ?_
  refine va_get (D := D) (ci := 3) (v := .ref t_clauses) (C := RX3) (T := TX3) (N := 4) hx hb hts (fun _ h => List.mem_cons_of_mem _ (List.mem_append_right _ (h))) hown hK hP 0 rfl rfl 0 (by decide) (hts (.fieldLink RX3 9 "MossWall$Seen" "clauses" "[I") (List.mem_cons_of_mem _ (List.mem_append_left _ (List.mem_of_getElem? (i := 1) rfl)))) (fun _ h9 => h9) rfl dX3_copyFrom_19 ?_
  refine lv_iconst (v := 0) hx hb dX3_copyFrom_22 (by decide) ?_
  refine lv_bipush (v := 6) hx hb dX3_copyFrom_23 (by decide) ?_
  refine va_copyi (ty := .int) hx hb (hml.trans hl.1.symm) hown (hts (.methodLink RX3 25 arraycopyName) (List.mem_cons_of_mem _ (List.mem_append_left _ (List.mem_of_getElem? (i := 2) rfl)))) (hts (.native arraycopyName) (List.mem_cons_of_mem _ (List.mem_append_left _ (List.mem_of_getElem? (i := 3) rfl)))) (hts (.static arraycopyName) (List.mem_cons_of_mem _ (List.mem_append_left _ (List.mem_of_getElem? (i := 4) rfl)))) (hts (.initialized "java/lang/System") (List.mem_cons_of_mem _ (List.mem_append_left _ (List.mem_of_getElem? (i := 5) rfl)))) hK hP hD hS 5 1 0 0 rfl rfl rfl rfl rfl (by decide) (by decide) (by decide) (by decide) (by decide) (fun _ _ => rfl) (Nat.le_of_ble_eq_true rfl) (Nat.le_of_ble_eq_true rfl) dX3_copyFrom_25 (fun H locs hP hD hS => ?_)
  have hP : va_P D vwCl [(t, .inr (3, [.ref t_clauses, .ref t_rains, .ref t_growths, .int p1_size])), (t_clauses, .inl (cA, 6, .inl (va_cpy c_p1_clauses c_t_clauses 0 0 6))), (t_rains, .inl (cA, 6, .inl c_t_rains)), (t_growths, .inl (cA, 6, .inl c_t_growths)), (p1, .inr (3, [.ref p1_clauses, .ref p1_rains, .ref p1_growths, .int p1_size])), (p1_clauses, .inl (cA, 6, .inl c_p1_clauses)), (p1_rains, .inl (cA, 6, .inl c_p1_rains)), (p1_growths, .inl (cA, 6, .inl c_p1_growths))] H := hP
  have hD : va_D A [(t, .inr (3, [.ref t_clauses, .ref t_rains, .ref t_growths, .int p1_size])), (t_clauses, .inl (cA, 6, .inl (va_cpy c_p1_clauses c_t_clauses 0 0 6))), (t_rains, .inl (cA, 6, .inl c_t_rains)), (t_growths, .inl (cA, 6, .inl c_t_growths)), (p1, .inr (3, [.ref p1_clauses, .ref p1_rains, .ref p1_growths, .int p1_size])), (p1_clauses, .inl (cA, 6, .inl c_p1_clauses)), (p1_rains, .inl (cA, 6, .inl c_p1_rains)), (p1_growths, .inl (cA, 6, .inl c_p1_growths))] := hD
  refine lv_aload_n hx hb dX3_copyFrom_28 rfl (lv_at hl 1 rfl) ?_
  refine va_get (D := D) (ci := 3) (v := .ref p1_rains) (C := RX3) (T := TX3) (N := 4) hx hb hts (fun _ h => List.mem_cons_of_mem _ (List.mem_append_right _ (h))) hown hK hP 4 rfl rfl 1 (by decide) (hts (.fieldLink RX3 15 "MossWall$Seen" "rains" "[I") (List.mem_cons_of_mem _ (List.mem_append_left _ (List.mem_of_getElem? (i := 6) rfl)))) (fun _ h9 => h9) rfl dX3_copyFrom_29 ?_
  refine lv_iconst (v := 0) hx hb dX3_copyFrom_32 (by decide) ?_
  refine lv_aload_n hx hb dX3_copyFrom_33 rfl (lv_at hl 0 rfl) ?_
  refine va_get (D := D) (ci := 3) (v := .ref t_rains) (C := RX3) (T := TX3) (N := 4) hx hb hts (fun _ h => List.mem_cons_of_mem _ (List.mem_append_right _ (h))) hown hK hP 0 rfl rfl 1 (by decide) (hts (.fieldLink RX3 15 "MossWall$Seen" "rains" "[I") (List.mem_cons_of_mem _ (List.mem_append_left _ (List.mem_of_getElem? (i := 6) rfl)))) (fun _ h9 => h9) rfl dX3_copyFrom_34 ?_
  refine lv_iconst (v := 0) hx hb dX3_copyFrom_37 (by decide) ?_
  refine lv_bipush (v := 6) hx hb dX3_copyFrom_38 (by decide) ?_
  refine va_copyi (ty := .int) hx hb (hml.trans hl.1.symm) hown (hts (.methodLink RX3 25 arraycopyName) (List.mem_cons_of_mem _ (List.mem_append_left _ (List.mem_of_getElem? (i := 2) rfl)))) (hts (.native arraycopyName) (List.mem_cons_of_mem _ (List.mem_append_left _ (List.mem_of_getElem? (i := 3) rfl)))) (hts (.static arraycopyName) (List.mem_cons_of_mem _ (List.mem_append_left _ (List.mem_of_getElem? (i := 4) rfl)))) (hts (.initialized "java/lang/System") (List.mem_cons_of_mem _ (List.mem_append_left _ (List.mem_of_getElem? (i := 5) rfl)))) hK hP hD hS 6 2 0 0 rfl rfl rfl rfl rfl (by decide) (by decide) (by decide) (by decide) (by decide) (fun _ _ => rfl) (Nat.le_of_ble_eq_true rfl) (Nat.le_of_ble_eq_true rfl) dX3_copyFrom_40 (fun H locs hP hD hS => ?_)
  have hP : va_P D vwCl [(t, .inr (3, [.ref t_clauses, .ref t_rains, .ref t_growths, .int p1_size])), (t_clauses, .inl (cA, 6, .inl (va_cpy c_p1_clauses c_t_clauses 0 0 6))), (t_rains, .inl (cA, 6, .inl (va_cpy c_p1_rains c_t_rains 0 0 6))), (t_growths, .inl (cA, 6, .inl c_t_growths)), (p1, .inr (3, [.ref p1_clauses, .ref p1_rains, .ref p1_growths, .int p1_size])), (p1_clauses, .inl (cA, 6, .inl c_p1_clauses)), (p1_rains, .inl (cA, 6, .inl c_p1_rains)), (p1_growths, .inl (cA, 6, .inl c_p1_growths))] H := hP
  have hD : va_D A [(t, .inr (3, [.ref t_clauses, .ref t_rains, .ref t_growths, .int p1_size])), (t_clauses, .inl (cA, 6, .inl (va_cpy c_p1_clauses c_t_clauses 0 0 6))), (t_rains, .inl (cA, 6, .inl (va_cpy c_p1_rains c_t_rains 0 0 6))), (t_growths, .inl (cA, 6, .inl c_t_growths)), (p1, .inr (3, [.ref p1_clauses, .ref p1_rains, .ref p1_growths, .int p1_size])), (p1_clauses, .inl (cA, 6, .inl c_p1_clauses)), (p1_rains, .inl (cA, 6, .inl c_p1_rains)), (p1_growths, .inl (cA, 6, .inl c_p1_growths))] := hD
  refine lv_aload_n hx hb dX3_copyFrom_43 rfl (lv_at hl 1 rfl) ?_
  refine va_get (D := D) (ci := 3) (v := .ref p1_growths) (C := RX3) (T := TX3) (N := 4) hx hb hts (fun _ h => List.mem_cons_of_mem _ (List.mem_append_right _ (h))) hown hK hP 4 rfl rfl 2 (by decide) (hts (.fieldLink RX3 18 "MossWall$Seen" "growths" "[I") (List.mem_cons_of_mem _ (List.mem_append_left _ (List.mem_of_getElem? (i := 7) rfl)))) (fun _ h9 => h9) rfl dX3_copyFrom_44 ?_
  refine lv_iconst (v := 0) hx hb dX3_copyFrom_47 (by decide) ?_
  refine lv_aload_n hx hb dX3_copyFrom_48 rfl (lv_at hl 0 rfl) ?_
  refine va_get (D := D) (ci := 3) (v := .ref t_growths) (C := RX3) (T := TX3) (N := 4) hx hb hts (fun _ h => List.mem_cons_of_mem _ (List.mem_append_right _ (h))) hown hK hP 0 rfl rfl 2 (by decide) (hts (.fieldLink RX3 18 "MossWall$Seen" "growths" "[I") (List.mem_cons_of_mem _ (List.mem_append_left _ (List.mem_of_getElem? (i := 7) rfl)))) (fun _ h9 => h9) rfl dX3_copyFrom_49 ?_
  refine lv_iconst (v := 0) hx hb dX3_copyFrom_52 (by decide) ?_
  refine lv_bipush (v := 6) hx hb dX3_copyFrom_53 (by decide) ?_
  refine va_copyi (ty := .int) hx hb (hml.trans hl.1.symm) hown (hts (.methodLink RX3 25 arraycopyName) (List.mem_cons_of_mem _ (List.mem_append_left _ (List.mem_of_getElem? (i := 2) rfl)))) (hts (.native arraycopyName) (List.mem_cons_of_mem _ (List.mem_append_left _ (List.mem_of_getElem? (i := 3) rfl)))) (hts (.static arraycopyName) (List.mem_cons_of_mem _ (List.mem_append_left _ (List.mem_of_getElem? (i := 4) rfl)))) (hts (.initialized "java/lang/System") (List.mem_cons_of_mem _ (List.mem_append_left _ (List.mem_of_getElem? (i := 5) rfl)))) hK hP hD hS 7 3 0 0 rfl rfl rfl rfl rfl (by decide) (by decide) (by decide) (by decide) (by decide) (fun _ _ => rfl) (Nat.le_of_ble_eq_true rfl) (Nat.le_of_ble_eq_true rfl) dX3_copyFrom_55 (fun H locs hP hD hS => ?_)
  have hP : va_P D vwCl [(t, .inr (3, [.ref t_clauses, .ref t_rains, .ref t_growths, .int p1_size])), (t_clauses, .inl (cA, 6, .inl (va_cpy c_p1_clauses c_t_clauses 0 0 6))), (t_rains, .inl (cA, 6, .inl (va_cpy c_p1_rains c_t_rains 0 0 6))), (t_growths, .inl (cA, 6, .inl (va_cpy c_p1_growths c_t_growths 0 0 6))), (p1, .inr (3, [.ref p1_clauses, .ref p1_rains, .ref p1_growths, .int p1_size])), (p1_clauses, .inl (cA, 6, .inl c_p1_clauses)), (p1_rains, .inl (cA, 6, .inl c_p1_rains)), (p1_growths, .inl (cA, 6, .inl c_p1_growths))] H := hP
  have hD : va_D A [(t, .inr (3, [.ref t_clauses, .ref t_rains, .ref t_growths, .int p1_size])), (t_clauses, .inl (cA, 6, .inl (va_cpy c_p1_clauses c_t_clauses 0 0 6))), (t_rains, .inl (cA, 6, .inl (va_cpy c_p1_rains c_t_rains 0 0 6))), (t_growths, .inl (cA, 6, .inl (va_cpy c_p1_growths c_t_growths 0 0 6))), (p1, .inr (3, [.ref p1_clauses, .ref p1_rains, .ref p1_growths, .int p1_size])), (p1_clauses, .inl (cA, 6, .inl c_p1_clauses)), (p1_rains, .inl (cA, 6, .inl c_p1_rains)), (p1_growths, .inl (cA, 6, .inl c_p1_growths))] := hD
  obtain ⟨rfl, rfl, rfl, rfl⟩ := mw_o4 hM
  subst hQ
  exact W.vret hx hb hr (fun t ht hW => ⟨⟨(), rfl, trivial, by rw [ht]; exact hP, hD⟩, hS.F ht⟩) hS.2.2 dX3_copyFrom_58
def mX3_canBe_L1 (t_size : Int32) (c_t_clauses : Nat → Int32) (c_t_rains : Nat → Int32) (c_t_growths : Nat → Int32) (p1 : Int32) (p2 : Int32) (k1_47 : Int32 → Option Int32) : Nat → Int32 → Option Int32
  | 0, _ => none
  | n1 + 1, x3_1 =>
    (if t_size ≤ x3_1 then k1_47 x3_1 else (mw_rd c_t_clauses 6 x3_1).bind fun e2 => (if e2 = p1 then (mw_rd c_t_rains 6 x3_1).bind fun e4 => (mX6_growth p2 e4).bind fun r5 => (mw_rd c_t_growths 6 x3_1).bind fun e6 => (if r5 = e6 then mX3_canBe_L1 t_size c_t_clauses c_t_rains c_t_growths p1 p2 k1_47 n1 (x3_1 + 1) else some 0) else mX3_canBe_L1 t_size c_t_clauses c_t_rains c_t_growths p1 p2 k1_47 n1 (x3_1 + 1)))
def mX3_canBe (t_size : Int32) (c_t_clauses : Nat → Int32) (c_t_rains : Nat → Int32) (c_t_growths : Nat → Int32) (p1 : Int32) (p2 : Int32) : Option Int32 :=
  mX3_canBe_L1 t_size c_t_clauses c_t_rains c_t_growths p1 p2 (fun (x3_1 : Int32) => some 1) 300 0
abbrev rmX3_canBe : Room := ({ frames := 2, cells := 0, slots := 0, locals := 34 } : Room)
set_option maxHeartbeats 4000000 in
set_option maxRecDepth 100000 in
theorem kX3_canBe (l : Launch) (D : va_G) (cA : ClassId) (t t_clauses t_rains t_growths : Nat) (t_size : Int32) (c_t_clauses : Nat → Int32) (c_t_rains : Nat → Int32) (c_t_growths : Nat → Int32) (p1 : Int32) (p2 : Int32) (r : Int32) (hM : mX3_canBe t_size c_t_clauses c_t_rains c_t_growths p1 p2 = some r) : Met l yX3_canBe wsX3_canBe rmX3_canBe (va_Pc [.ref t, .int p1, .int p2] (fun U => va_P D vwCl [(t, .inr (3, [.ref t_clauses, .ref t_rains, .ref t_growths, .int t_size])), (t_clauses, .inl (cA, 6, .inl c_t_clauses)), (t_rains, .inl (cA, 6, .inl c_t_rains)), (t_growths, .inl (cA, 6, .inl c_t_growths))] U.heap ∧ mw_ev D cA U)) (vp_Si (fun v => v = r ∧ narrow .boolean (.int v) = .int v)) 0 0 (fun _ => False) := by
  unfold mX3_canBe at hM
  refine Met.ofW (cc := cX3_canBe) (maxL := 4) (ret := (some .boolean)) (by decide) rfl ?_
  intro p e s m args below meth c s₁ B hml hv
  obtain ⟨rfl, hP, hE⟩ := hv
  have hx := B.exec
  have hb := B.bytes
  have hr := B.returns
  have hts := atoms_spec (ws := wsX3_canBe) B.pre
  have hown : s.vm.findClass RX3 = some m.cls := findClass_of_methodNamed B.named
  have hlocks := B.notSynchronized
  have hK := hE.1
  have hl := lv_entry ([.ref t, .int p1, .int p2]) (n := 4) (Nat.le_of_ble_eq_true rfl)
  rw [lg_entry_eq]
  generalize (lg_sl ([.ref t, .int p1, .int p2]) ++ List.replicate (4 - (lg_sl ([.ref t, .int p1, .int p2])).length) Slot.unset).toArray = ls at hl ⊢
  have hl : lv_has ls 4 [(0, .ref t), (1, .int p1), (2, .int p2)] := hl
  refine mw_q (P := fun Q => W p l e (headSpec wsX3_canBe rmX3_canBe).room s m (([.ref t, .int p1, .int p2] : List Value).toArray) below meth c s.heap [] 0 0 Q (F0 m 0 ls [])) (fun Q hQ => ?_)
  refine lv_iconst (v := 0) hx hb dX3_canBe_0 (by decide) ?_
  refine lv_istore_n (lv' := [(3, .int 0), (0, .ref t), (1, .int p1), (2, .int p2)]) hx hb dX3_canBe_1 rfl hl (by decide) rfl (fun ls hl => ?_)
  obtain ⟨k1_47, jk1_47⟩ : ∃ k : Int32 → Option Int32, k = fun (x3_1 : Int32) => some 1 := ⟨_, rfl⟩
  have Ek1_47 : ∀ (x3_1 : Int32) (ls : Array Slot), lv_has ls 4 [(3, .int x3_1), (0, .ref t), (1, .int p1), (2, .int p2)] → k1_47 x3_1 = some r → W p l e (headSpec wsX3_canBe rmX3_canBe).room s m (([.ref t, .int p1, .int p2] : List Value).toArray) below meth c s.heap [] 0 0 Q (F0 m 47 ls []) := by
      intro x3_1 ls hl hM
      rw [jk1_47] at hM
      refine lv_iconst (v := 1) hx hb dX3_canBe_47 (by decide) ?_
      obtain rfl := mw_o1 hM
      subst hQ
      exact W.zret hx hb hr rfl (fun t ht hW => ⟨_, rfl, ⟨rfl, rfl⟩, ht⟩) (fun q h => absurd h List.not_mem_nil) dX3_canBe_48
  have L1 : ∀ (n1 : Nat) (x3_1 : Int32) (ls : Array Slot), lv_has ls 4 [(3, .int x3_1), (0, .ref t), (1, .int p1), (2, .int p2)] → mX3_canBe_L1 t_size c_t_clauses c_t_rains c_t_growths p1 p2 k1_47 n1 x3_1 = some r → W p l e (headSpec wsX3_canBe rmX3_canBe).room s m (([.ref t, .int p1, .int p2] : List Value).toArray) below meth c s.heap [] 0 0 Q (F0 m 2 ls []) := by
      intro n1
      induction n1 with
      | zero =>
        intro x3_1 ls hl hM
        rw [mX3_canBe_L1] at hM
        exact mw_none hM
      | succ n1 ih1 =>
        intro x3_1 ls hl hM
        rw [mX3_canBe_L1] at hM
        refine lv_iload_n hx hb dX3_canBe_2 rfl (lv_at hl 0 rfl) ?_
        refine lv_aload_n hx hb dX3_canBe_3 rfl (lv_at hl 1 rfl) ?_
        refine va_get (D := D) (ci := 3) (v := .int t_size) (C := RX3) (T := TX3) (N := 4) hx hb hts (fun _ h => List.mem_cons_of_mem _ (List.mem_append_right _ (h))) hown hK hP 0 rfl rfl 3 (by decide) (hts (.fieldLink RX3 21 "MossWall$Seen" "size" "I") (List.mem_cons_of_mem _ (List.mem_append_left _ (List.mem_of_getElem? (i := 0) rfl)))) (fun _ h9 => h9) rfl dX3_canBe_4 ?_
        refine lv_icmp_ge (tgt := 47) hx hb dX3_canBe_7 (by decide) (fun q1 => ?_) (fun q1 => ?_)
        · replace hM := mw_t hM q1
          exact Ek1_47 x3_1 _ (lv_sub hl [0, 1, 2, 3] rfl) hM
        · replace hM := mw_f hM q1
          refine lv_aload_n hx hb dX3_canBe_10 rfl (lv_at hl 1 rfl) ?_
          refine va_get (D := D) (ci := 3) (v := .ref t_clauses) (C := RX3) (T := TX3) (N := 4) hx hb hts (fun _ h => List.mem_cons_of_mem _ (List.mem_append_right _ (h))) hown hK hP 0 rfl rfl 0 (by decide) (hts (.fieldLink RX3 9 "MossWall$Seen" "clauses" "[I") (List.mem_cons_of_mem _ (List.mem_append_left _ (List.mem_of_getElem? (i := 1) rfl)))) (fun _ h9 => h9) rfl dX3_canBe_11 ?_
          refine lv_iload_n hx hb dX3_canBe_14 rfl (lv_at hl 0 rfl) ?_
          obtain ⟨e2, h2, hM⟩ := mw_d1 hM
          refine mw_iald hx hb hK hP 1 0 rfl rfl h2 dX3_canBe_15 ?_
          refine lv_iload_n hx hb dX3_canBe_16 rfl (lv_at hl 2 rfl) ?_
          refine lv_icmp_ne (tgt := 41) hx hb dX3_canBe_17 (by decide) (fun q3 => ?_) (fun q3 => ?_)
          · replace hM := mw_f hM q3
            refine lv_iinc (v := x3_1 + 1) (lv' := [(3, .int (x3_1 + 1)), (0, .ref t), (1, .int p1), (2, .int p2)]) hx hb dX3_canBe_41 hl (k := 0) rfl (by first | rfl | decide) (by decide) rfl (fun ls hl => ?_)
            refine lv_goto (tgt := 2) hx hb dX3_canBe_44 (by decide) ?_
            exact ih1 (x3_1 + 1) _ (lv_sub hl [0, 1, 2, 3] rfl) hM
          · replace hM := mw_t hM q3
            refine lv_iload_n hx hb dX3_canBe_20 rfl (lv_at hl 3 rfl) ?_
            refine lv_aload_n hx hb dX3_canBe_21 rfl (lv_at hl 1 rfl) ?_
            refine va_get (D := D) (ci := 3) (v := .ref t_rains) (C := RX3) (T := TX3) (N := 4) hx hb hts (fun _ h => List.mem_cons_of_mem _ (List.mem_append_right _ (h))) hown hK hP 0 rfl rfl 1 (by decide) (hts (.fieldLink RX3 15 "MossWall$Seen" "rains" "[I") (List.mem_cons_of_mem _ (List.mem_append_left _ (List.mem_of_getElem? (i := 2) rfl)))) (fun _ h9 => h9) rfl dX3_canBe_22 ?_
            refine lv_iload_n hx hb dX3_canBe_25 rfl (lv_at hl 0 rfl) ?_
            obtain ⟨e4, h4, hM⟩ := mw_d1 hM
            refine mw_iald hx hb hK hP 2 0 rfl rfl h4 dX3_canBe_26 ?_
            obtain ⟨r5, h5, hM⟩ := mw_d1 hM
            have hPc := hP.sub (ws' := []) [] rfl
            refine vp_callSi (va_Run.run (va_runSN (As := [.int p2, .int e4]) (rest := []) ⟨hx, hb, hml, hown, hts⟩ (kX6_growth l D cA p2 e4 r5 h5) ⟨va_cnB (own := RX3) (index := 43) (host := RX6) 2 hts gX3_canBe_X6_growth_n43 rfl rfl rfl (hE.2 (RX3, 43, yX6_growth) (by decide +kernel)) (hts (.initialized RX6) (List.mem_cons_of_mem _ (List.mem_append_left _ (List.mem_of_getElem? (i := 5) rfl)))) (by decide +kernel) ⟨Nat.le_of_ble_eq_true rfl, Nat.le_of_ble_eq_true rfl⟩, (hts (.static yX6_growth) (List.mem_cons_of_mem _ (List.mem_append_left _ (List.mem_of_getElem? (i := 4) rfl)))), trivial⟩ ⟨mw_fbR, mw_puR hPc hE⟩ rfl rfl hl.1 rfl (lv_room (Nat.le_of_ble_eq_true rfl)) dX3_canBe_27 ⟨Nat.zero_le _, Nat.zero_le _⟩)) (fun v_ e_ => ?_)
            subst v_
            refine lv_aload_n hx hb dX3_canBe_30 rfl (lv_at hl 1 rfl) ?_
            refine va_get (D := D) (ci := 3) (v := .ref t_growths) (C := RX3) (T := TX3) (N := 4) hx hb hts (fun _ h => List.mem_cons_of_mem _ (List.mem_append_right _ (h))) hown hK hP 0 rfl rfl 2 (by decide) (hts (.fieldLink RX3 18 "MossWall$Seen" "growths" "[I") (List.mem_cons_of_mem _ (List.mem_append_left _ (List.mem_of_getElem? (i := 3) rfl)))) (fun _ h9 => h9) rfl dX3_canBe_31 ?_
            refine lv_iload_n hx hb dX3_canBe_34 rfl (lv_at hl 0 rfl) ?_
            obtain ⟨e6, h6, hM⟩ := mw_d1 hM
            refine mw_iald hx hb hK hP 3 0 rfl rfl h6 dX3_canBe_35 ?_
            refine lv_icmp_eq (tgt := 41) hx hb dX3_canBe_36 (by decide) (fun q7 => ?_) (fun q7 => ?_)
            · replace hM := mw_t hM q7
              refine lv_iinc (v := x3_1 + 1) (lv' := [(3, .int (x3_1 + 1)), (0, .ref t), (1, .int p1), (2, .int p2)]) hx hb dX3_canBe_41 hl (k := 0) rfl (by first | rfl | decide) (by decide) rfl (fun ls hl => ?_)
              refine lv_goto (tgt := 2) hx hb dX3_canBe_44 (by decide) ?_
              exact ih1 (x3_1 + 1) _ (lv_sub hl [0, 1, 2, 3] rfl) hM
            · replace hM := mw_f hM q7
              refine lv_iconst (v := 0) hx hb dX3_canBe_39 (by decide) ?_
              obtain rfl := mw_o1 hM
              subst hQ
              exact W.zret hx hb hr rfl (fun t ht hW => ⟨_, rfl, ⟨rfl, rfl⟩, ht⟩) (fun q h => absurd h List.not_mem_nil) dX3_canBe_40
  exact L1 300 0 _ hl (by rw [jk1_47]; exact hM)
def mX3_sortsOf_L1 (t_size : Int32) (c_t_clauses : Nat → Int32) (c_t_rains : Nat → Int32) (c_t_growths : Nat → Int32) (p1 : Int32) (k1_30 : Int32 → Int32 → Option Int32) : Nat → Int32 → Int32 → Option Int32
  | 0, _, _ => none
  | n1 + 1, x3_1, x2_1 =>
    (if 5 ≤ x3_1 then k1_30 x3_1 x2_1 else (mX3_canBe t_size c_t_clauses c_t_rains c_t_growths p1 x3_1).bind fun r2 => (if r2 = 0 then mX3_sortsOf_L1 t_size c_t_clauses c_t_rains c_t_growths p1 k1_30 n1 (x3_1 + 1) x2_1 else mX3_sortsOf_L1 t_size c_t_clauses c_t_rains c_t_growths p1 k1_30 n1 (x3_1 + 1) (x2_1 ||| (1 <<< (x3_1 &&& 31)))))
def mX3_sortsOf (t_size : Int32) (c_t_clauses : Nat → Int32) (c_t_rains : Nat → Int32) (c_t_growths : Nat → Int32) (p1 : Int32) : Option Int32 :=
  mX3_sortsOf_L1 t_size c_t_clauses c_t_rains c_t_growths p1 (fun (x3_1 : Int32) (x2_1 : Int32) => some x2_1) 300 0 0
abbrev rmX3_sortsOf : Room := ({ frames := 3, cells := 0, slots := 0, locals := 57 } : Room)
set_option maxHeartbeats 4000000 in
set_option maxRecDepth 100000 in
theorem kX3_sortsOf (l : Launch) (D : va_G) (cA : ClassId) (t t_clauses t_rains t_growths : Nat) (t_size : Int32) (c_t_clauses : Nat → Int32) (c_t_rains : Nat → Int32) (c_t_growths : Nat → Int32) (p1 : Int32) (r : Int32) (hM : mX3_sortsOf t_size c_t_clauses c_t_rains c_t_growths p1 = some r) : Met l yX3_sortsOf wsX3_sortsOf rmX3_sortsOf (va_Pc [.ref t, .int p1] (fun U => va_P D vwCl [(t, .inr (3, [.ref t_clauses, .ref t_rains, .ref t_growths, .int t_size])), (t_clauses, .inl (cA, 6, .inl c_t_clauses)), (t_rains, .inl (cA, 6, .inl c_t_rains)), (t_growths, .inl (cA, 6, .inl c_t_growths))] U.heap ∧ mw_ev D cA U)) (vp_Si (fun v => v = r)) 0 0 (fun _ => False) := by
  unfold mX3_sortsOf at hM
  refine Met.ofW (cc := cX3_sortsOf) (maxL := 4) (ret := (some .int)) (by decide) rfl ?_
  intro p e s m args below meth c s₁ B hml hv
  obtain ⟨rfl, hP, hE⟩ := hv
  have hx := B.exec
  have hb := B.bytes
  have hr := B.returns
  have hts := atoms_spec (ws := wsX3_sortsOf) B.pre
  have hown : s.vm.findClass RX3 = some m.cls := findClass_of_methodNamed B.named
  have hlocks := B.notSynchronized
  have hK := hE.1
  have hl := lv_entry ([.ref t, .int p1]) (n := 4) (Nat.le_of_ble_eq_true rfl)
  rw [lg_entry_eq]
  generalize (lg_sl ([.ref t, .int p1]) ++ List.replicate (4 - (lg_sl ([.ref t, .int p1])).length) Slot.unset).toArray = ls at hl ⊢
  have hl : lv_has ls 4 [(0, .ref t), (1, .int p1)] := hl
  refine mw_q (P := fun Q => W p l e (headSpec wsX3_sortsOf rmX3_sortsOf).room s m (([.ref t, .int p1] : List Value).toArray) below meth c s.heap [] 0 0 Q (F0 m 0 ls [])) (fun Q hQ => ?_)
  refine lv_iconst (v := 0) hx hb dX3_sortsOf_0 (by decide) ?_
  refine lv_istore_n (lv' := [(2, .int 0), (0, .ref t), (1, .int p1)]) hx hb dX3_sortsOf_1 rfl hl (by decide) rfl (fun ls hl => ?_)
  refine lv_iconst (v := 0) hx hb dX3_sortsOf_2 (by decide) ?_
  refine lv_istore_n (lv' := [(3, .int 0), (2, .int 0), (0, .ref t), (1, .int p1)]) hx hb dX3_sortsOf_3 rfl hl (by decide) rfl (fun ls hl => ?_)
  obtain ⟨k1_30, jk1_30⟩ : ∃ k : Int32 → Int32 → Option Int32, k = fun (x3_1 : Int32) (x2_1 : Int32) => some x2_1 := ⟨_, rfl⟩
  have Ek1_30 : ∀ (x3_1 : Int32) (x2_1 : Int32) (ls : Array Slot), lv_has ls 4 [(3, .int x3_1), (2, .int x2_1), (0, .ref t), (1, .int p1)] → k1_30 x3_1 x2_1 = some r → W p l e (headSpec wsX3_sortsOf rmX3_sortsOf).room s m (([.ref t, .int p1] : List Value).toArray) below meth c s.heap [] 0 0 Q (F0 m 30 ls []) := by
      intro x3_1 x2_1 ls hl hM
      rw [jk1_30] at hM
      refine lv_iload_n hx hb dX3_sortsOf_30 rfl (lv_at hl 1 rfl) ?_
      obtain rfl := mw_o1 hM
      subst hQ
      exact W.iret hx hb hr (fun t ht hW => ⟨_, rfl, rfl, ht⟩) (fun q h => absurd h List.not_mem_nil) dX3_sortsOf_31
  have L1 : ∀ (n1 : Nat) (x3_1 : Int32) (x2_1 : Int32) (ls : Array Slot), lv_has ls 4 [(3, .int x3_1), (2, .int x2_1), (0, .ref t), (1, .int p1)] → mX3_sortsOf_L1 t_size c_t_clauses c_t_rains c_t_growths p1 k1_30 n1 x3_1 x2_1 = some r → W p l e (headSpec wsX3_sortsOf rmX3_sortsOf).room s m (([.ref t, .int p1] : List Value).toArray) below meth c s.heap [] 0 0 Q (F0 m 4 ls []) := by
      intro n1
      induction n1 with
      | zero =>
        intro x3_1 x2_1 ls hl hM
        rw [mX3_sortsOf_L1] at hM
        exact mw_none hM
      | succ n1 ih1 =>
        intro x3_1 x2_1 ls hl hM
        rw [mX3_sortsOf_L1] at hM
        refine lv_iload_n hx hb dX3_sortsOf_4 rfl (lv_at hl 0 rfl) ?_
        refine lv_iconst (v := 5) hx hb dX3_sortsOf_5 (by decide) ?_
        refine lv_icmp_ge (tgt := 30) hx hb dX3_sortsOf_6 (by decide) (fun q1 => ?_) (fun q1 => ?_)
        · replace hM := mw_t hM q1
          exact Ek1_30 x3_1 x2_1 _ (lv_sub hl [0, 1, 2, 3] rfl) hM
        · replace hM := mw_f hM q1
          refine lv_aload_n hx hb dX3_sortsOf_9 rfl (lv_at hl 2 rfl) ?_
          refine lv_iload_n hx hb dX3_sortsOf_10 rfl (lv_at hl 3 rfl) ?_
          refine lv_iload_n hx hb dX3_sortsOf_11 rfl (lv_at hl 0 rfl) ?_
          obtain ⟨r2, h2, hM⟩ := mw_d1 hM
          have hPc := hP.sub (ws' := [(t, .inr (3, [.ref t_clauses, .ref t_rains, .ref t_growths, .int t_size])), (t_clauses, .inl (cA, 6, .inl c_t_clauses)), (t_rains, .inl (cA, 6, .inl c_t_rains)), (t_growths, .inl (cA, 6, .inl c_t_growths))]) [0, 1, 2, 3] rfl
          refine vp_callSi (va_Run.run (va_runV (As := [.int p1, .int x3_1]) (rest := []) ⟨hx, hb, hml, hown, hts⟩ (kX3_canBe l D cA t t_clauses t_rains t_growths t_size c_t_clauses c_t_rains c_t_growths p1 x3_1 r2 h2) (cwV 2 hts gX3_sortsOf_X3_canBe rfl rfl rfl (by decide +kernel) ⟨Nat.le_of_ble_eq_true rfl, Nat.le_of_ble_eq_true rfl⟩) ⟨mw_fbR, va_recv hK hP (ci := 3) (q0 := 0) rfl rfl, mw_puR hPc hE⟩ rfl rfl hl.1 rfl (lv_room (Nat.le_of_ble_eq_true rfl)) dX3_sortsOf_12 ⟨Nat.zero_le _, Nat.zero_le _⟩)) (fun v_ e_ => ?_)
          obtain ⟨e_, b2⟩ := e_
          subst v_
          refine lv_if_eq (tgt := 24) hx hb dX3_sortsOf_15 (by decide) (fun q3 => ?_) (fun q3 => ?_)
          · replace hM := mw_t hM q3
            refine lv_iinc (v := x3_1 + 1) (lv' := [(3, .int (x3_1 + 1)), (2, .int x2_1), (0, .ref t), (1, .int p1)]) hx hb dX3_sortsOf_24 hl (k := 0) rfl (by first | rfl | decide) (by decide) rfl (fun ls hl => ?_)
            refine lv_goto (tgt := 4) hx hb dX3_sortsOf_27 (by decide) ?_
            exact ih1 (x3_1 + 1) x2_1 _ (lv_sub hl [0, 1, 2, 3] rfl) hM
          · replace hM := mw_f hM q3
            refine lv_iload_n hx hb dX3_sortsOf_18 rfl (lv_at hl 1 rfl) ?_
            refine lv_iconst (v := 1) hx hb dX3_sortsOf_19 (by decide) ?_
            refine lv_iload_n hx hb dX3_sortsOf_20 rfl (lv_at hl 0 rfl) ?_
            refine lv_ishl hx hb dX3_sortsOf_21 ?_
            refine lv_ior hx hb dX3_sortsOf_22 ?_
            refine lv_istore_n (lv' := [(2, .int (x2_1 ||| (1 <<< (x3_1 &&& 31)))), (3, .int x3_1), (0, .ref t), (1, .int p1)]) hx hb dX3_sortsOf_23 rfl hl (by decide) rfl (fun ls hl => ?_)
            refine lv_iinc (v := x3_1 + 1) (lv' := [(3, .int (x3_1 + 1)), (2, .int (x2_1 ||| (1 <<< (x3_1 &&& 31)))), (0, .ref t), (1, .int p1)]) hx hb dX3_sortsOf_24 hl (k := 1) rfl (by first | rfl | decide) (by decide) rfl (fun ls hl => ?_)
            refine lv_goto (tgt := 4) hx hb dX3_sortsOf_27 (by decide) ?_
            exact ih1 (x3_1 + 1) (x2_1 ||| (1 <<< (x3_1 &&& 31))) _ (lv_sub hl [0, 1, 2, 3] rfl) hM
  exact L1 300 0 0 _ hl (by rw [jk1_30]; exact hM)
def mX3_leftAtWorst_L2 (p1 : Int32) (p2 : Int32) (x3_1 : Int32) (k2_51 : Int32 → Int32 → Option Int32) : Nat → Int32 → Int32 → Option Int32
  | 0, _, _ => none
  | n2 + 1, x5_2, x4_2 =>
    (if 5 ≤ x5_2 then k2_51 x5_2 x4_2 else (if ((p1 >>> (x5_2 &&& 31)) &&& 1) = 1 then (mX6_growth x5_2 p2).bind fun r4 => (if r4 = x3_1 then mX3_leftAtWorst_L2 p1 p2 x3_1 k2_51 n2 (x5_2 + 1) (x4_2 + 1) else mX3_leftAtWorst_L2 p1 p2 x3_1 k2_51 n2 (x5_2 + 1) x4_2) else mX3_leftAtWorst_L2 p1 p2 x3_1 k2_51 n2 (x5_2 + 1) x4_2))
def mX3_leftAtWorst_L1 (p1 : Int32) (p2 : Int32) (k1_64 : Int32 → Int32 → Option Int32) : Nat → Int32 → Int32 → Option Int32
  | 0, _, _ => none
  | n1 + 1, x3_1, x2_1 =>
    (if 6 < x3_1 then k1_64 x3_1 x2_1 else mX3_leftAtWorst_L2 p1 p2 x3_1 (fun (x5_2 : Int32) (x4_2 : Int32) => mX3_leftAtWorst_L1 p1 p2 k1_64 n1 (x3_1 + 1) (mw_mx x2_1 x4_2)) 300 0 0)
def mX3_leftAtWorst (p1 : Int32) (p2 : Int32) : Option Int32 :=
  mX3_leftAtWorst_L1 p1 p2 (fun (x3_1 : Int32) (x2_1 : Int32) => some x2_1) 300 0 0
abbrev rmX3_leftAtWorst : Room := ({ frames := 2, cells := 0, slots := 0, locals := 34 } : Room)
set_option maxHeartbeats 4000000 in
set_option maxRecDepth 100000 in
theorem kX3_leftAtWorst (l : Launch) (D : va_G) (cA : ClassId) (p1 : Int32) (p2 : Int32) (r : Int32) (hM : mX3_leftAtWorst p1 p2 = some r) : Met l yX3_leftAtWorst wsX3_leftAtWorst rmX3_leftAtWorst (va_Pc [.int p1, .int p2] (fun U => va_P D vwCl [] U.heap ∧ mw_ev D cA U)) (vp_Si (fun v => v = r)) 0 0 (fun _ => False) := by
  unfold mX3_leftAtWorst at hM
  refine Met.ofW (cc := cX3_leftAtWorst) (maxL := 6) (ret := (some .int)) (by decide) rfl ?_
  intro p e s m args below meth c s₁ B hml hv
  obtain ⟨rfl, hP, hE⟩ := hv
  have hx := B.exec
  have hb := B.bytes
  have hr := B.returns
  have hts := atoms_spec (ws := wsX3_leftAtWorst) B.pre
  have hown : s.vm.findClass RX3 = some m.cls := findClass_of_methodNamed B.named
  have hlocks := B.notSynchronized
  have hK := hE.1
  have hl := lv_entry ([.int p1, .int p2]) (n := 6) (Nat.le_of_ble_eq_true rfl)
  rw [lg_entry_eq]
  generalize (lg_sl ([.int p1, .int p2]) ++ List.replicate (6 - (lg_sl ([.int p1, .int p2])).length) Slot.unset).toArray = ls at hl ⊢
  have hl : lv_has ls 6 [(0, .int p1), (1, .int p2)] := hl
  refine mw_q (P := fun Q => W p l e (headSpec wsX3_leftAtWorst rmX3_leftAtWorst).room s m (([.int p1, .int p2] : List Value).toArray) below meth c s.heap [] 0 0 Q (F0 m 0 ls [])) (fun Q hQ => ?_)
  refine lv_iconst (v := 0) hx hb dX3_leftAtWorst_0 (by decide) ?_
  refine lv_istore_n (lv' := [(2, .int 0), (0, .int p1), (1, .int p2)]) hx hb dX3_leftAtWorst_1 rfl hl (by decide) rfl (fun ls hl => ?_)
  refine lv_iconst (v := 0) hx hb dX3_leftAtWorst_2 (by decide) ?_
  refine lv_istore_n (lv' := [(3, .int 0), (2, .int 0), (0, .int p1), (1, .int p2)]) hx hb dX3_leftAtWorst_3 rfl hl (by decide) rfl (fun ls hl => ?_)
  obtain ⟨k1_64, jk1_64⟩ : ∃ k : Int32 → Int32 → Option Int32, k = fun (x3_1 : Int32) (x2_1 : Int32) => some x2_1 := ⟨_, rfl⟩
  have Ek1_64 : ∀ (x3_1 : Int32) (x2_1 : Int32) (ls : Array Slot), lv_has ls 6 [(3, .int x3_1), (2, .int x2_1), (0, .int p1), (1, .int p2)] → k1_64 x3_1 x2_1 = some r → W p l e (headSpec wsX3_leftAtWorst rmX3_leftAtWorst).room s m (([.int p1, .int p2] : List Value).toArray) below meth c s.heap [] 0 0 Q (F0 m 64 ls []) := by
      intro x3_1 x2_1 ls hl hM
      rw [jk1_64] at hM
      refine lv_iload_n hx hb dX3_leftAtWorst_64 rfl (lv_at hl 1 rfl) ?_
      obtain rfl := mw_o1 hM
      subst hQ
      exact W.iret hx hb hr (fun t ht hW => ⟨_, rfl, rfl, ht⟩) (fun q h => absurd h List.not_mem_nil) dX3_leftAtWorst_65
  have L1 : ∀ (n1 : Nat) (x3_1 : Int32) (x2_1 : Int32) (ls : Array Slot), lv_has ls 6 [(3, .int x3_1), (2, .int x2_1), (0, .int p1), (1, .int p2)] → mX3_leftAtWorst_L1 p1 p2 k1_64 n1 x3_1 x2_1 = some r → W p l e (headSpec wsX3_leftAtWorst rmX3_leftAtWorst).room s m (([.int p1, .int p2] : List Value).toArray) below meth c s.heap [] 0 0 Q (F0 m 4 ls []) := by
      intro n1
      induction n1 with
      | zero =>
        intro x3_1 x2_1 ls hl hM
        rw [mX3_leftAtWorst_L1] at hM
        exact mw_none hM
      | succ n1 ih1 =>
        intro x3_1 x2_1 ls hl hM
        rw [mX3_leftAtWorst_L1] at hM
        refine lv_iload_n hx hb dX3_leftAtWorst_4 rfl (lv_at hl 0 rfl) ?_
        refine lv_bipush (v := 6) hx hb dX3_leftAtWorst_5 (by decide) ?_
        refine lv_icmp_gt (tgt := 64) hx hb dX3_leftAtWorst_7 (by decide) (fun q1 => ?_) (fun q1 => ?_)
        · replace hM := mw_t hM q1
          exact Ek1_64 x3_1 x2_1 _ (lv_sub hl [0, 1, 2, 3] rfl) hM
        · replace hM := mw_f hM q1
          refine lv_iconst (v := 0) hx hb dX3_leftAtWorst_10 (by decide) ?_
          refine lv_istore (lv' := [(4, .int 0), (3, .int x3_1), (2, .int x2_1), (0, .int p1), (1, .int p2)]) hx hb dX3_leftAtWorst_11 hl (by decide) rfl (fun ls hl => ?_)
          refine lv_iconst (v := 0) hx hb dX3_leftAtWorst_13 (by decide) ?_
          refine lv_istore (lv' := [(5, .int 0), (4, .int 0), (3, .int x3_1), (2, .int x2_1), (0, .int p1), (1, .int p2)]) hx hb dX3_leftAtWorst_14 hl (by decide) rfl (fun ls hl => ?_)
          obtain ⟨k2_51, jk2_51⟩ : ∃ k : Int32 → Int32 → Option Int32, k = fun (x5_2 : Int32) (x4_2 : Int32) => mX3_leftAtWorst_L1 p1 p2 k1_64 n1 (x3_1 + 1) (mw_mx x2_1 x4_2) := ⟨_, rfl⟩
          have Ek2_51 : ∀ (x5_2 : Int32) (x4_2 : Int32) (ls : Array Slot), lv_has ls 6 [(5, .int x5_2), (4, .int x4_2), (3, .int x3_1), (2, .int x2_1), (0, .int p1), (1, .int p2)] → k2_51 x5_2 x4_2 = some r → W p l e (headSpec wsX3_leftAtWorst rmX3_leftAtWorst).room s m (([.int p1, .int p2] : List Value).toArray) below meth c s.heap [] 0 0 Q (F0 m 51 ls []) := by
              intro x5_2 x4_2 ls hl hM
              rw [jk2_51] at hM
              refine lv_iload_n hx hb dX3_leftAtWorst_51 rfl (lv_at hl 3 rfl) ?_
              refine lv_iload hx hb dX3_leftAtWorst_52 (lv_at hl 1 rfl) ?_
              refine va_mmax hx hb (hml.trans hl.1.symm) hown (hts (.methodLink RX3 46 Lib.Math.max.name) (List.mem_cons_of_mem _ (List.mem_of_getElem? (i := 0) rfl))) (hts (.static Lib.Math.max.name) (List.mem_cons_of_mem _ (List.mem_of_getElem? (i := 1) rfl))) (hts (.initialized "java/lang/Math") (List.mem_cons_of_mem _ (List.mem_of_getElem? (i := 2) rfl))) (hts (.code Lib.Math.max.name Lib.Math.max.code 2 (some .int)) (List.mem_cons_of_mem _ (List.mem_of_getElem? (i := 3) rfl))) (Nat.le_of_ble_eq_true rfl) (Nat.le_of_ble_eq_true rfl) (Nat.zero_le _) (Nat.zero_le _) dX3_leftAtWorst_54 ?_
              refine lv_istore_n (lv' := [(2, .int (mw_mx x2_1 x4_2)), (5, .int x5_2), (4, .int x4_2), (3, .int x3_1), (0, .int p1), (1, .int p2)]) hx hb dX3_leftAtWorst_57 rfl hl (by decide) rfl (fun ls hl => ?_)
              refine lv_iinc (v := x3_1 + 1) (lv' := [(3, .int (x3_1 + 1)), (2, .int (mw_mx x2_1 x4_2)), (5, .int x5_2), (4, .int x4_2), (0, .int p1), (1, .int p2)]) hx hb dX3_leftAtWorst_58 hl (k := 3) rfl (by first | rfl | decide) (by decide) rfl (fun ls hl => ?_)
              refine lv_goto (tgt := 4) hx hb dX3_leftAtWorst_61 (by decide) ?_
              exact ih1 (x3_1 + 1) (mw_mx x2_1 x4_2) _ (lv_sub hl [0, 1, 4, 5] rfl) hM
          have L2 : ∀ (n2 : Nat) (x5_2 : Int32) (x4_2 : Int32) (ls : Array Slot), lv_has ls 6 [(5, .int x5_2), (4, .int x4_2), (3, .int x3_1), (2, .int x2_1), (0, .int p1), (1, .int p2)] → mX3_leftAtWorst_L2 p1 p2 x3_1 k2_51 n2 x5_2 x4_2 = some r → W p l e (headSpec wsX3_leftAtWorst rmX3_leftAtWorst).room s m (([.int p1, .int p2] : List Value).toArray) below meth c s.heap [] 0 0 Q (F0 m 16 ls []) := by
              intro n2
              induction n2 with
              | zero =>
                intro x5_2 x4_2 ls hl hM
                rw [mX3_leftAtWorst_L2] at hM
                exact mw_none hM
              | succ n2 ih2 =>
                intro x5_2 x4_2 ls hl hM
                rw [mX3_leftAtWorst_L2] at hM
                refine lv_iload hx hb dX3_leftAtWorst_16 (lv_at hl 0 rfl) ?_
                refine lv_iconst (v := 5) hx hb dX3_leftAtWorst_18 (by decide) ?_
                refine lv_icmp_ge (tgt := 51) hx hb dX3_leftAtWorst_19 (by decide) (fun q2 => ?_) (fun q2 => ?_)
                · replace hM := mw_t hM q2
                  exact Ek2_51 x5_2 x4_2 _ (lv_sub hl [0, 1, 2, 3, 4, 5] rfl) hM
                · replace hM := mw_f hM q2
                  refine lv_iload_n hx hb dX3_leftAtWorst_22 rfl (lv_at hl 4 rfl) ?_
                  refine lv_iload hx hb dX3_leftAtWorst_23 (lv_at hl 0 rfl) ?_
                  refine lv_ishr hx hb dX3_leftAtWorst_25 ?_
                  refine lv_iconst (v := 1) hx hb dX3_leftAtWorst_26 (by decide) ?_
                  refine lv_iand hx hb dX3_leftAtWorst_27 ?_
                  refine lv_iconst (v := 1) hx hb dX3_leftAtWorst_28 (by decide) ?_
                  refine lv_icmp_ne (tgt := 45) hx hb dX3_leftAtWorst_29 (by decide) (fun q3 => ?_) (fun q3 => ?_)
                  · replace hM := mw_f hM q3
                    refine lv_iinc (v := x5_2 + 1) (lv' := [(5, .int (x5_2 + 1)), (4, .int x4_2), (3, .int x3_1), (2, .int x2_1), (0, .int p1), (1, .int p2)]) hx hb dX3_leftAtWorst_45 hl (k := 0) rfl (by first | rfl | decide) (by decide) rfl (fun ls hl => ?_)
                    refine lv_goto (tgt := 16) hx hb dX3_leftAtWorst_48 (by decide) ?_
                    exact ih2 (x5_2 + 1) x4_2 _ (lv_sub hl [0, 1, 2, 3, 4, 5] rfl) hM
                  · replace hM := mw_t hM q3
                    refine lv_iload hx hb dX3_leftAtWorst_32 (lv_at hl 0 rfl) ?_
                    refine lv_iload_n hx hb dX3_leftAtWorst_34 rfl (lv_at hl 5 rfl) ?_
                    obtain ⟨r4, h4, hM⟩ := mw_d1 hM
                    have hPc := hP.sub (ws' := []) [] rfl
                    refine vp_callSi (va_Run.run (va_runSN (As := [.int x5_2, .int p2]) (rest := []) ⟨hx, hb, hml, hown, hts⟩ (kX6_growth l D cA x5_2 p2 r4 h4) ⟨va_cnB (own := RX3) (index := 43) (host := RX6) 2 hts gX3_leftAtWorst_X6_growth_n43 rfl rfl rfl (hE.2 (RX3, 43, yX6_growth) (by decide +kernel)) (hts (.initialized RX6) (List.mem_cons_of_mem _ (List.mem_of_getElem? (i := 5) rfl))) (by decide +kernel) ⟨Nat.le_of_ble_eq_true rfl, Nat.le_of_ble_eq_true rfl⟩, (hts (.static yX6_growth) (List.mem_cons_of_mem _ (List.mem_of_getElem? (i := 4) rfl))), trivial⟩ ⟨mw_fbR, mw_puR hPc hE⟩ rfl rfl hl.1 rfl (lv_room (Nat.le_of_ble_eq_true rfl)) dX3_leftAtWorst_35 ⟨Nat.zero_le _, Nat.zero_le _⟩)) (fun v_ e_ => ?_)
                    subst v_
                    refine lv_iload_n hx hb dX3_leftAtWorst_38 rfl (lv_at hl 2 rfl) ?_
                    refine lv_icmp_ne (tgt := 45) hx hb dX3_leftAtWorst_39 (by decide) (fun q5 => ?_) (fun q5 => ?_)
                    · replace hM := mw_f hM q5
                      refine lv_iinc (v := x5_2 + 1) (lv' := [(5, .int (x5_2 + 1)), (4, .int x4_2), (3, .int x3_1), (2, .int x2_1), (0, .int p1), (1, .int p2)]) hx hb dX3_leftAtWorst_45 hl (k := 0) rfl (by first | rfl | decide) (by decide) rfl (fun ls hl => ?_)
                      refine lv_goto (tgt := 16) hx hb dX3_leftAtWorst_48 (by decide) ?_
                      exact ih2 (x5_2 + 1) x4_2 _ (lv_sub hl [0, 1, 2, 3, 4, 5] rfl) hM
                    · replace hM := mw_t hM q5
                      refine lv_iinc (v := x4_2 + 1) (lv' := [(4, .int (x4_2 + 1)), (5, .int x5_2), (3, .int x3_1), (2, .int x2_1), (0, .int p1), (1, .int p2)]) hx hb dX3_leftAtWorst_42 hl (k := 1) rfl (by first | rfl | decide) (by decide) rfl (fun ls hl => ?_)
                      refine lv_iinc (v := x5_2 + 1) (lv' := [(5, .int (x5_2 + 1)), (4, .int (x4_2 + 1)), (3, .int x3_1), (2, .int x2_1), (0, .int p1), (1, .int p2)]) hx hb dX3_leftAtWorst_45 hl (k := 1) rfl (by first | rfl | decide) (by decide) rfl (fun ls hl => ?_)
                      refine lv_goto (tgt := 16) hx hb dX3_leftAtWorst_48 (by decide) ?_
                      exact ih2 (x5_2 + 1) (x4_2 + 1) _ (lv_sub hl [0, 1, 2, 3, 4, 5] rfl) hM
          exact L2 300 0 0 _ hl (by rw [jk2_51]; exact hM)
  exact L1 300 0 0 _ hl (by rw [jk1_64]; exact hM)
def mX3_rainToTry_L1 (r1 : Int32) (k1_46 : Int32 → Int32 → Option Int32) : Nat → Int32 → Int32 → Option Int32
  | 0, _, _ => none
  | n1 + 1, x4_1, x3_1 =>
    (if 3 < x4_1 then k1_46 x4_1 x3_1 else (mX3_leftAtWorst r1 x4_1).bind fun r4 => (mX3_leftAtWorst r1 x3_1).bind fun r5 => (if r5 ≤ r4 then mX3_rainToTry_L1 r1 k1_46 n1 (x4_1 + 1) x3_1 else mX3_rainToTry_L1 r1 k1_46 n1 (x4_1 + 1) x4_1))
def mX3_rainToTry (t_size : Int32) (c_t_clauses : Nat → Int32) (c_t_rains : Nat → Int32) (c_t_growths : Nat → Int32) (p1 : Int32) : Option Int32 :=
  (mX3_sortsOf t_size c_t_clauses c_t_rains c_t_growths p1).bind fun r1 => (if r1 = 0 then some ((-1)) else mX3_rainToTry_L1 r1 (fun (x4_1 : Int32) (x3_1 : Int32) => some x3_1) 300 1 0)
abbrev rmX3_rainToTry : Room := ({ frames := 4, cells := 0, slots := 0, locals := 80 } : Room)
set_option maxHeartbeats 4000000 in
set_option maxRecDepth 100000 in
theorem kX3_rainToTry (l : Launch) (D : va_G) (cA : ClassId) (t t_clauses t_rains t_growths : Nat) (t_size : Int32) (c_t_clauses : Nat → Int32) (c_t_rains : Nat → Int32) (c_t_growths : Nat → Int32) (p1 : Int32) (r : Int32) (hM : mX3_rainToTry t_size c_t_clauses c_t_rains c_t_growths p1 = some r) : Met l yX3_rainToTry wsX3_rainToTry rmX3_rainToTry (va_Pc [.ref t, .int p1] (fun U => va_P D vwCl [(t, .inr (3, [.ref t_clauses, .ref t_rains, .ref t_growths, .int t_size])), (t_clauses, .inl (cA, 6, .inl c_t_clauses)), (t_rains, .inl (cA, 6, .inl c_t_rains)), (t_growths, .inl (cA, 6, .inl c_t_growths))] U.heap ∧ mw_ev D cA U)) (vp_Si (fun v => v = r)) 0 0 (fun _ => False) := by
  unfold mX3_rainToTry at hM
  refine Met.ofW (cc := cX3_rainToTry) (maxL := 5) (ret := (some .int)) (by decide) rfl ?_
  intro p e s m args below meth c s₁ B hml hv
  obtain ⟨rfl, hP, hE⟩ := hv
  have hx := B.exec
  have hb := B.bytes
  have hr := B.returns
  have hts := atoms_spec (ws := wsX3_rainToTry) B.pre
  have hown : s.vm.findClass RX3 = some m.cls := findClass_of_methodNamed B.named
  have hlocks := B.notSynchronized
  have hK := hE.1
  have hl := lv_entry ([.ref t, .int p1]) (n := 5) (Nat.le_of_ble_eq_true rfl)
  rw [lg_entry_eq]
  generalize (lg_sl ([.ref t, .int p1]) ++ List.replicate (5 - (lg_sl ([.ref t, .int p1])).length) Slot.unset).toArray = ls at hl ⊢
  have hl : lv_has ls 5 [(0, .ref t), (1, .int p1)] := hl
  refine mw_q (P := fun Q => W p l e (headSpec wsX3_rainToTry rmX3_rainToTry).room s m (([.ref t, .int p1] : List Value).toArray) below meth c s.heap [] 0 0 Q (F0 m 0 ls [])) (fun Q hQ => ?_)
  refine lv_aload_n hx hb dX3_rainToTry_0 rfl (lv_at hl 0 rfl) ?_
  refine lv_iload_n hx hb dX3_rainToTry_1 rfl (lv_at hl 1 rfl) ?_
  obtain ⟨r1, h1, hM⟩ := mw_d1 hM
  have hPc := hP.sub (ws' := [(t, .inr (3, [.ref t_clauses, .ref t_rains, .ref t_growths, .int t_size])), (t_clauses, .inl (cA, 6, .inl c_t_clauses)), (t_rains, .inl (cA, 6, .inl c_t_rains)), (t_growths, .inl (cA, 6, .inl c_t_growths))]) [0, 1, 2, 3] rfl
  refine vp_callSi (va_Run.run (va_runV (As := [.int p1]) (rest := []) ⟨hx, hb, hml, hown, hts⟩ (kX3_sortsOf l D cA t t_clauses t_rains t_growths t_size c_t_clauses c_t_rains c_t_growths p1 r1 h1) (cwV 1 hts gX3_rainToTry_X3_sortsOf rfl rfl rfl (by decide +kernel) ⟨Nat.le_of_ble_eq_true rfl, Nat.le_of_ble_eq_true rfl⟩) ⟨mw_fbR, va_recv hK hP (ci := 3) (q0 := 0) rfl rfl, mw_puR hPc hE⟩ rfl rfl hl.1 rfl (lv_room (Nat.le_of_ble_eq_true rfl)) dX3_rainToTry_2 ⟨Nat.zero_le _, Nat.zero_le _⟩)) (fun v_ e_ => ?_)
  subst v_
  refine lv_istore_n (lv' := [(2, .int r1), (0, .ref t), (1, .int p1)]) hx hb dX3_rainToTry_5 rfl hl (by decide) rfl (fun ls hl => ?_)
  refine lv_iload_n hx hb dX3_rainToTry_6 rfl (lv_at hl 0 rfl) ?_
  refine lv_if_ne (tgt := 12) hx hb dX3_rainToTry_7 (by decide) (fun q2 => ?_) (fun q2 => ?_)
  · replace hM := mw_f hM q2
    refine lv_iconst (v := 0) hx hb dX3_rainToTry_12 (by decide) ?_
    refine lv_istore_n (lv' := [(3, .int 0), (2, .int r1), (0, .ref t), (1, .int p1)]) hx hb dX3_rainToTry_13 rfl hl (by decide) rfl (fun ls hl => ?_)
    refine lv_iconst (v := 1) hx hb dX3_rainToTry_14 (by decide) ?_
    refine lv_istore (lv' := [(4, .int 1), (3, .int 0), (2, .int r1), (0, .ref t), (1, .int p1)]) hx hb dX3_rainToTry_15 hl (by decide) rfl (fun ls hl => ?_)
    obtain ⟨k1_46, jk1_46⟩ : ∃ k : Int32 → Int32 → Option Int32, k = fun (x4_1 : Int32) (x3_1 : Int32) => some x3_1 := ⟨_, rfl⟩
    have Ek1_46 : ∀ (x4_1 : Int32) (x3_1 : Int32) (ls : Array Slot), lv_has ls 5 [(4, .int x4_1), (3, .int x3_1), (2, .int r1), (0, .ref t), (1, .int p1)] → k1_46 x4_1 x3_1 = some r → W p l e (headSpec wsX3_rainToTry rmX3_rainToTry).room s m (([.ref t, .int p1] : List Value).toArray) below meth c s.heap [] 0 0 Q (F0 m 46 ls []) := by
        intro x4_1 x3_1 ls hl hM
        rw [jk1_46] at hM
        refine lv_iload_n hx hb dX3_rainToTry_46 rfl (lv_at hl 1 rfl) ?_
        obtain rfl := mw_o1 hM
        subst hQ
        exact W.iret hx hb hr (fun t ht hW => ⟨_, rfl, rfl, ht⟩) (fun q h => absurd h List.not_mem_nil) dX3_rainToTry_47
    have L1 : ∀ (n1 : Nat) (x4_1 : Int32) (x3_1 : Int32) (ls : Array Slot), lv_has ls 5 [(4, .int x4_1), (3, .int x3_1), (2, .int r1), (0, .ref t), (1, .int p1)] → mX3_rainToTry_L1 r1 k1_46 n1 x4_1 x3_1 = some r → W p l e (headSpec wsX3_rainToTry rmX3_rainToTry).room s m (([.ref t, .int p1] : List Value).toArray) below meth c s.heap [] 0 0 Q (F0 m 17 ls []) := by
        intro n1
        induction n1 with
        | zero =>
          intro x4_1 x3_1 ls hl hM
          rw [mX3_rainToTry_L1] at hM
          exact mw_none hM
        | succ n1 ih1 =>
          intro x4_1 x3_1 ls hl hM
          rw [mX3_rainToTry_L1] at hM
          refine lv_iload hx hb dX3_rainToTry_17 (lv_at hl 0 rfl) ?_
          refine lv_iconst (v := 3) hx hb dX3_rainToTry_19 (by decide) ?_
          refine lv_icmp_gt (tgt := 46) hx hb dX3_rainToTry_20 (by decide) (fun q3 => ?_) (fun q3 => ?_)
          · replace hM := mw_t hM q3
            exact Ek1_46 x4_1 x3_1 _ (lv_sub hl [0, 1, 2, 3, 4] rfl) hM
          · replace hM := mw_f hM q3
            refine lv_iload_n hx hb dX3_rainToTry_23 rfl (lv_at hl 2 rfl) ?_
            refine lv_iload hx hb dX3_rainToTry_24 (lv_at hl 0 rfl) ?_
            obtain ⟨r4, h4, hM⟩ := mw_d1 hM
            have hPc := hP.sub (ws' := []) [] rfl
            refine vp_callSi (va_Run.run (va_runS (As := [.int r1, .int x4_1]) (rest := []) ⟨hx, hb, hml, hown, hts⟩ (kX3_leftAtWorst l D cA r1 x4_1 r4 h4) (va_cwS 2 hts gX3_rainToTry_X3_leftAtWorst rfl rfl rfl (by decide +kernel) ⟨Nat.le_of_ble_eq_true rfl, Nat.le_of_ble_eq_true rfl⟩) ⟨mw_fbR, mw_puR hPc hE⟩ rfl rfl hl.1 rfl (lv_room (Nat.le_of_ble_eq_true rfl)) dX3_rainToTry_26 ⟨Nat.zero_le _, Nat.zero_le _⟩)) (fun v_ e_ => ?_)
            subst v_
            refine lv_iload_n hx hb dX3_rainToTry_29 rfl (lv_at hl 2 rfl) ?_
            refine lv_iload_n hx hb dX3_rainToTry_30 rfl (lv_at hl 1 rfl) ?_
            obtain ⟨r5, h5, hM⟩ := mw_d1 hM
            have hPc := hP.sub (ws' := []) [] rfl
            refine vp_callSi (va_Run.run (va_runS (As := [.int r1, .int x3_1]) (rest := [.int r4]) ⟨hx, hb, hml, hown, hts⟩ (kX3_leftAtWorst l D cA r1 x3_1 r5 h5) (va_cwS 2 hts gX3_rainToTry_X3_leftAtWorst rfl rfl rfl (by decide +kernel) ⟨Nat.le_of_ble_eq_true rfl, Nat.le_of_ble_eq_true rfl⟩) ⟨mw_fbR, mw_puR hPc hE⟩ rfl rfl hl.1 rfl (lv_room (Nat.le_of_ble_eq_true rfl)) dX3_rainToTry_31 ⟨Nat.zero_le _, Nat.zero_le _⟩)) (fun v_ e_ => ?_)
            subst v_
            refine lv_icmp_ge (tgt := 40) hx hb dX3_rainToTry_34 (by decide) (fun q6 => ?_) (fun q6 => ?_)
            · replace hM := mw_t hM q6
              refine lv_iinc (v := x4_1 + 1) (lv' := [(4, .int (x4_1 + 1)), (3, .int x3_1), (2, .int r1), (0, .ref t), (1, .int p1)]) hx hb dX3_rainToTry_40 hl (k := 0) rfl (by first | rfl | decide) (by decide) rfl (fun ls hl => ?_)
              refine lv_goto (tgt := 17) hx hb dX3_rainToTry_43 (by decide) ?_
              exact ih1 (x4_1 + 1) x3_1 _ (lv_sub hl [0, 1, 2, 3, 4] rfl) hM
            · replace hM := mw_f hM q6
              refine lv_iload hx hb dX3_rainToTry_37 (lv_at hl 0 rfl) ?_
              refine lv_istore_n (lv' := [(3, .int x4_1), (4, .int x4_1), (2, .int r1), (0, .ref t), (1, .int p1)]) hx hb dX3_rainToTry_39 rfl hl (by decide) rfl (fun ls hl => ?_)
              refine lv_iinc (v := x4_1 + 1) (lv' := [(4, .int (x4_1 + 1)), (3, .int x4_1), (2, .int r1), (0, .ref t), (1, .int p1)]) hx hb dX3_rainToTry_40 hl (k := 1) rfl (by first | rfl | decide) (by decide) rfl (fun ls hl => ?_)
              refine lv_goto (tgt := 17) hx hb dX3_rainToTry_43 (by decide) ?_
              exact ih1 (x4_1 + 1) x4_1 _ (lv_sub hl [0, 1, 2, 3, 4] rfl) hM
    exact L1 300 1 0 _ hl (by rw [jk1_46]; exact hM)
  · replace hM := mw_t hM q2
    refine lv_iconst (v := (-1)) hx hb dX3_rainToTry_10 (by decide) ?_
    obtain rfl := mw_o1 hM
    subst hQ
    exact W.iret hx hb hr (fun t ht hW => ⟨_, rfl, rfl, ht⟩) (fun q h => absurd h List.not_mem_nil) dX3_rainToTry_11
