def mX2_size (t_size : Int32) : Option Int32 :=
  some t_size
abbrev rmX2_size : Room := ({ frames := 0, cells := 0, slots := 0, locals := 0 } : Room)
set_option maxHeartbeats 4000000 in
set_option maxRecDepth 100000 in
theorem kX2_size (l : Launch) (D : va_G) (cA : ClassId) (t t_codes : Nat) (t_size : Int32) (r : Int32) (hM : mX2_size t_size = some r) : Met l yX2_size wsX2_size rmX2_size (va_Pc [.ref t] (fun U => va_P D vwCl [(t, .inr (2, [.ref t_codes, .int t_size]))] U.heap ∧ mw_ev D cA U)) (vp_Si (fun v => v = r)) 0 0 (fun _ => False) := by
  unfold mX2_size at hM
  refine Met.ofW (cc := cX2_size) (maxL := 1) (ret := (some .int)) (by decide) rfl ?_
  intro p e s m args below meth c s₁ B hml hv
  obtain ⟨rfl, hP, hE⟩ := hv
  have hx := B.exec
  have hb := B.bytes
  have hr := B.returns
  have hts := atoms_spec (ws := wsX2_size) B.pre
  have hown : s.vm.findClass RX2 = some m.cls := findClass_of_methodNamed B.named
  have hlocks := B.notSynchronized
  have hK := hE.1
  have hl := lv_entry ([.ref t]) (n := 1) (Nat.le_of_ble_eq_true rfl)
  rw [lg_entry_eq]
  generalize (lg_sl ([.ref t]) ++ List.replicate (1 - (lg_sl ([.ref t])).length) Slot.unset).toArray = ls at hl ⊢
  have hl : lv_has ls 1 [(0, .ref t)] := hl
  refine mw_q (P := fun Q => W p l e (headSpec wsX2_size rmX2_size).room s m (([.ref t] : List Value).toArray) below meth c s.heap [] 0 0 Q (F0 m 0 ls [])) (fun Q hQ => ?_)
  refine lv_aload_n hx hb dX2_size_0 rfl (lv_at hl 0 rfl) ?_
  refine va_get (D := D) (ci := 2) (v := .int t_size) (C := RX2) (T := TX2) (N := 2) hx hb hts (fun _ h => List.mem_cons_of_mem _ (List.mem_append_right _ (h))) hown hK hP 0 rfl rfl 1 (by decide) (hts (.fieldLink RX2 15 "MossWall$Page" "size" "I") (List.mem_cons_of_mem _ (List.mem_append_left _ (List.mem_of_getElem? (i := 0) rfl)))) (fun _ h9 => h9) rfl dX2_size_1 ?_
  obtain rfl := mw_o1 hM
  subst hQ
  exact W.iret hx hb hr (fun t ht hW => ⟨_, rfl, rfl, ht⟩) (fun q h => absurd h List.not_mem_nil) dX2_size_4
def mX2_codeAt (t_size : Int32) (c_t_codes : Nat → Int32) (p1 : Int32) : Option Int32 :=
  (if p1 < 0 then some ((-1)) else (if t_size ≤ p1 then some ((-1)) else (mw_rd c_t_codes 36 p1).bind fun e3 => some e3))
abbrev rmX2_codeAt : Room := ({ frames := 0, cells := 0, slots := 0, locals := 0 } : Room)
set_option maxHeartbeats 4000000 in
set_option maxRecDepth 100000 in
theorem kX2_codeAt (l : Launch) (D : va_G) (cA : ClassId) (t t_codes : Nat) (t_size : Int32) (c_t_codes : Nat → Int32) (p1 : Int32) (r : Int32) (hM : mX2_codeAt t_size c_t_codes p1 = some r) : Met l yX2_codeAt wsX2_codeAt rmX2_codeAt (va_Pc [.ref t, .int p1] (fun U => va_P D vwCl [(t, .inr (2, [.ref t_codes, .int t_size])), (t_codes, .inl (cA, 36, .inl c_t_codes))] U.heap ∧ mw_ev D cA U)) (vp_Si (fun v => v = r)) 0 0 (fun _ => False) := by
  unfold mX2_codeAt at hM
  refine Met.ofW (cc := cX2_codeAt) (maxL := 2) (ret := (some .int)) (by decide) rfl ?_
  intro p e s m args below meth c s₁ B hml hv
  obtain ⟨rfl, hP, hE⟩ := hv
  have hx := B.exec
  have hb := B.bytes
  have hr := B.returns
  have hts := atoms_spec (ws := wsX2_codeAt) B.pre
  have hown : s.vm.findClass RX2 = some m.cls := findClass_of_methodNamed B.named
  have hlocks := B.notSynchronized
  have hK := hE.1
  have hl := lv_entry ([.ref t, .int p1]) (n := 2) (Nat.le_of_ble_eq_true rfl)
  rw [lg_entry_eq]
  generalize (lg_sl ([.ref t, .int p1]) ++ List.replicate (2 - (lg_sl ([.ref t, .int p1])).length) Slot.unset).toArray = ls at hl ⊢
  have hl : lv_has ls 2 [(0, .ref t), (1, .int p1)] := hl
  refine mw_q (P := fun Q => W p l e (headSpec wsX2_codeAt rmX2_codeAt).room s m (([.ref t, .int p1] : List Value).toArray) below meth c s.heap [] 0 0 Q (F0 m 0 ls [])) (fun Q hQ => ?_)
  refine lv_iload_n hx hb dX2_codeAt_0 rfl (lv_at hl 1 rfl) ?_
  refine lv_if_lt (tgt := 21) hx hb dX2_codeAt_1 (by decide) (fun q1 => ?_) (fun q1 => ?_)
  · replace hM := mw_t hM q1
    refine lv_iconst (v := (-1)) hx hb dX2_codeAt_21 (by decide) ?_
    obtain rfl := mw_o1 hM
    subst hQ
    exact W.iret hx hb hr (fun t ht hW => ⟨_, rfl, rfl, ht⟩) (fun q h => absurd h List.not_mem_nil) dX2_codeAt_22
  · replace hM := mw_f hM q1
    refine lv_iload_n hx hb dX2_codeAt_4 rfl (lv_at hl 1 rfl) ?_
    refine lv_aload_n hx hb dX2_codeAt_5 rfl (lv_at hl 0 rfl) ?_
    refine va_get (D := D) (ci := 2) (v := .int t_size) (C := RX2) (T := TX2) (N := 2) hx hb hts (fun _ h => List.mem_cons_of_mem _ (List.mem_append_right _ (h))) hown hK hP 0 rfl rfl 1 (by decide) (hts (.fieldLink RX2 15 "MossWall$Page" "size" "I") (List.mem_cons_of_mem _ (List.mem_append_left _ (List.mem_of_getElem? (i := 0) rfl)))) (fun _ h9 => h9) rfl dX2_codeAt_6 ?_
    refine lv_icmp_ge (tgt := 21) hx hb dX2_codeAt_9 (by decide) (fun q2 => ?_) (fun q2 => ?_)
    · replace hM := mw_t hM q2
      refine lv_iconst (v := (-1)) hx hb dX2_codeAt_21 (by decide) ?_
      obtain rfl := mw_o1 hM
      subst hQ
      exact W.iret hx hb hr (fun t ht hW => ⟨_, rfl, rfl, ht⟩) (fun q h => absurd h List.not_mem_nil) dX2_codeAt_22
    · replace hM := mw_f hM q2
      refine lv_aload_n hx hb dX2_codeAt_12 rfl (lv_at hl 0 rfl) ?_
      refine va_get (D := D) (ci := 2) (v := .ref t_codes) (C := RX2) (T := TX2) (N := 2) hx hb hts (fun _ h => List.mem_cons_of_mem _ (List.mem_append_right _ (h))) hown hK hP 0 rfl rfl 0 (by decide) (hts (.fieldLink RX2 9 "MossWall$Page" "codes" "[I") (List.mem_cons_of_mem _ (List.mem_append_left _ (List.mem_of_getElem? (i := 1) rfl)))) (fun _ h9 => h9) rfl dX2_codeAt_13 ?_
      refine lv_iload_n hx hb dX2_codeAt_16 rfl (lv_at hl 1 rfl) ?_
      obtain ⟨e3, h3, hM⟩ := mw_d1 hM
      refine mw_iald hx hb hK hP 1 0 rfl rfl h3 dX2_codeAt_17 ?_
      refine lv_goto (tgt := 22) hx hb dX2_codeAt_18 (by decide) ?_
      obtain rfl := mw_o1 hM
      subst hQ
      exact W.iret hx hb hr (fun t ht hW => ⟨_, rfl, rfl, ht⟩) (fun q h => absurd h List.not_mem_nil) dX2_codeAt_22
def mX2_add (t_size : Int32) (c_t_codes : Nat → Int32) (p1 : Int32) : Option (Int32 × (Nat → Int32)) :=
  (if 36 ≤ t_size then some (t_size, c_t_codes) else (mw_wr c_t_codes 36 t_size p1).bind fun a2_codes => some (t_size + 1, a2_codes))
abbrev rmX2_add : Room := ({ frames := 0, cells := 0, slots := 0, locals := 0 } : Room)
set_option maxHeartbeats 4000000 in
set_option maxRecDepth 100000 in
theorem kX2_add (l : Launch) (D : va_G) (cA : ClassId) (t t_codes : Nat) (sz : Nat) (t_size : Int32) (c_t_codes : Nat → Int32) (p1 : Int32) (o_t_size : Int32) (o_c_t_codes : Nat → Int32) (hM : mX2_add t_size c_t_codes p1 = some (o_t_size, o_c_t_codes)) : Met l yX2_add wsX2_add rmX2_add (va_Pc [.ref t, .int p1] (fun U => U.heap.size = sz ∧ va_P D vwCl [(t, .inr (2, [.ref t_codes, .int t_size])), (t_codes, .inl (cA, 36, .inl c_t_codes))] U.heap ∧ mw_ev D cA U ∧ va_D (fun _ => True) [(t, .inr (2, [.ref t_codes, .int t_size])), (t_codes, .inl (cA, 36, .inl c_t_codes))])) (va_Qv (fun (_ : Unit) => True) (fun (_ : Unit) w_ => va_P D vwCl [(t, .inr (2, [.ref t_codes, .int o_t_size])), (t_codes, .inl (cA, 36, .inl o_c_t_codes))] w_.heap ∧ va_D (va_A [(t, .inr (2, [.ref t_codes, .int t_size])), (t_codes, .inl (cA, 36, .inl c_t_codes))] sz) [(t, .inr (2, [.ref t_codes, .int o_t_size])), (t_codes, .inl (cA, 36, .inl o_c_t_codes))]) (va_A [(t, .inr (2, [.ref t_codes, .int t_size])), (t_codes, .inl (cA, 36, .inl c_t_codes))] sz)) 0 0 (va_A [(t, .inr (2, [.ref t_codes, .int t_size])), (t_codes, .inl (cA, 36, .inl c_t_codes))] sz) := by
  unfold mX2_add at hM
  refine Met.ofW (cc := cX2_add) (maxL := 2) (ret := none) (by decide) rfl ?_
  intro p e s m args below meth c s₁ B hml hv
  obtain ⟨rfl, hsz, hP, hE, hD0⟩ := hv
  have hx := B.exec
  have hb := B.bytes
  have hr := B.returns
  have hts := atoms_spec (ws := wsX2_add) B.pre
  have hown : s.vm.findClass RX2 = some m.cls := findClass_of_methodNamed B.named
  have hlocks := B.notSynchronized
  have hK := hE.1
  subst hsz
  have hD := hD0.self (sz := s.heap.size)
  generalize hAe : va_A [(t, .inr (2, [.ref t_codes, .int t_size])), (t_codes, .inl (cA, 36, .inl c_t_codes))] s.heap.size = A at hD ⊢
  have hA : ∀ q : Nat, s.heap.size ≤ q → A q := fun q h => by rw [← hAe]; exact Or.inr h
  have hS : va_S A s.heap s.heap [] := va_S.rf
  have hl := lv_entry ([.ref t, .int p1]) (n := 2) (Nat.le_of_ble_eq_true rfl)
  rw [lg_entry_eq]
  generalize (lg_sl ([.ref t, .int p1]) ++ List.replicate (2 - (lg_sl ([.ref t, .int p1])).length) Slot.unset).toArray = ls at hl ⊢
  have hl : lv_has ls 2 [(0, .ref t), (1, .int p1)] := hl
  refine mw_q (P := fun Q => W p l e (headSpec wsX2_add rmX2_add).room s m (([.ref t, .int p1] : List Value).toArray) below meth c s.heap [] 0 0 Q (F0 m 0 ls [])) (fun Q hQ => ?_)
  refine lv_aload_n hx hb dX2_add_0 rfl (lv_at hl 0 rfl) ?_
  refine va_get (D := D) (ci := 2) (v := .int t_size) (C := RX2) (T := TX2) (N := 2) hx hb hts (fun _ h => List.mem_cons_of_mem _ (List.mem_append_right _ (h))) hown hK hP 0 rfl rfl 1 (by decide) (hts (.fieldLink RX2 15 "MossWall$Page" "size" "I") (List.mem_cons_of_mem _ (List.mem_append_left _ (List.mem_of_getElem? (i := 0) rfl)))) (fun _ h9 => h9) rfl dX2_add_1 ?_
  refine lv_bipush (v := 36) hx hb dX2_add_4 (by decide) ?_
  refine lv_icmp_ge (tgt := 29) hx hb dX2_add_6 (by decide) (fun q1 => ?_) (fun q1 => ?_)
  · replace hM := mw_t hM q1
    obtain ⟨rfl, rfl⟩ := mw_o2 hM
    subst hQ
    exact W.vret hx hb hr (fun t ht hW => ⟨⟨(), rfl, trivial, by rw [ht]; exact hP, hD⟩, hS.F ht⟩) hS.2.2 dX2_add_29
  · replace hM := mw_f hM q1
    refine lv_aload_n hx hb dX2_add_9 rfl (lv_at hl 0 rfl) ?_
    refine va_get (D := D) (ci := 2) (v := .ref t_codes) (C := RX2) (T := TX2) (N := 2) hx hb hts (fun _ h => List.mem_cons_of_mem _ (List.mem_append_right _ (h))) hown hK hP 0 rfl rfl 0 (by decide) (hts (.fieldLink RX2 9 "MossWall$Page" "codes" "[I") (List.mem_cons_of_mem _ (List.mem_append_left _ (List.mem_of_getElem? (i := 1) rfl)))) (fun _ h9 => h9) rfl dX2_add_10 ?_
    refine lv_aload_n hx hb dX2_add_13 rfl (lv_at hl 0 rfl) ?_
    refine va_get (D := D) (ci := 2) (v := .int t_size) (C := RX2) (T := TX2) (N := 2) hx hb hts (fun _ h => List.mem_cons_of_mem _ (List.mem_append_right _ (h))) hown hK hP 0 rfl rfl 1 (by decide) (hts (.fieldLink RX2 15 "MossWall$Page" "size" "I") (List.mem_cons_of_mem _ (List.mem_append_left _ (List.mem_of_getElem? (i := 0) rfl)))) (fun _ h9 => h9) rfl dX2_add_14 ?_
    refine lv_iload_n hx hb dX2_add_17 rfl (lv_at hl 1 rfl) ?_
    obtain ⟨a2_codes, h2, hM⟩ := mw_d1 hM
    refine mw_iast hx hb hK hP hD hS 1 0 rfl rfl h2 dX2_add_18 (fun H locs hP hD hS => ?_)
    have hP : va_P D vwCl [(t, .inr (2, [.ref t_codes, .int t_size])), (t_codes, .inl (cA, 36, .inl a2_codes))] H := hP
    have hD : va_D A [(t, .inr (2, [.ref t_codes, .int t_size])), (t_codes, .inl (cA, 36, .inl a2_codes))] := hD
    refine lv_aload_n hx hb dX2_add_19 rfl (lv_at hl 0 rfl) ?_
    refine lv_dup hx hb dX2_add_20 rfl ?_
    refine va_get (D := D) (ci := 2) (v := .int t_size) (C := RX2) (T := TX2) (N := 2) hx hb hts (fun _ h => List.mem_cons_of_mem _ (List.mem_append_right _ (h))) hown hK hP 0 rfl rfl 1 (by decide) (hts (.fieldLink RX2 15 "MossWall$Page" "size" "I") (List.mem_cons_of_mem _ (List.mem_append_left _ (List.mem_of_getElem? (i := 0) rfl)))) (fun _ h9 => h9) rfl dX2_add_21 ?_
    refine lv_iconst (v := 1) hx hb dX2_add_24 (by decide) ?_
    refine lv_iadd hx hb dX2_add_25 ?_
    refine va_put (D := D) (ci := 2) (v := .int (t_size + 1)) (ty := .int) (C := RX2) (T := TX2) (N := 2) hx hb hts (fun _ h => List.mem_cons_of_mem _ (List.mem_append_right _ (h))) tyX2 tyX2_ok nmX2 hown hK hP hD hS 0 rfl rfl 1 (by decide) (hts (.fieldLink RX2 15 "MossWall$Page" "size" "I") (List.mem_cons_of_mem _ (List.mem_append_left _ (List.mem_of_getElem? (i := 0) rfl)))) (fun _ h9 => h9) rfl (by decide +kernel) rfl rfl (Nat.le_of_ble_eq_true rfl) dX2_add_26 (fun H locs hP hD hS => ?_)
    have hP : va_P D vwCl [(t, .inr (2, [.ref t_codes, .int (t_size + 1)])), (t_codes, .inl (cA, 36, .inl a2_codes))] H := hP
    have hD : va_D A [(t, .inr (2, [.ref t_codes, .int (t_size + 1)])), (t_codes, .inl (cA, 36, .inl a2_codes))] := hD
    obtain ⟨rfl, rfl⟩ := mw_o2 hM
    subst hQ
    exact W.vret hx hb hr (fun t ht hW => ⟨⟨(), rfl, trivial, by rw [ht]; exact hP, hD⟩, hS.F ht⟩) hS.2.2 dX2_add_29
def mX2_clear (t_size : Int32) : Option Int32 :=
  some 0
abbrev rmX2_clear : Room := ({ frames := 0, cells := 0, slots := 0, locals := 0 } : Room)
set_option maxHeartbeats 4000000 in
set_option maxRecDepth 100000 in
theorem kX2_clear (l : Launch) (D : va_G) (cA : ClassId) (t t_codes : Nat) (sz : Nat) (t_size : Int32) (o_t_size : Int32) (hM : mX2_clear t_size = some o_t_size) : Met l yX2_clear wsX2_clear rmX2_clear (va_Pc [.ref t] (fun U => U.heap.size = sz ∧ va_P D vwCl [(t, .inr (2, [.ref t_codes, .int t_size]))] U.heap ∧ mw_ev D cA U ∧ va_D (fun _ => True) [(t, .inr (2, [.ref t_codes, .int t_size]))])) (va_Qv (fun (_ : Unit) => True) (fun (_ : Unit) w_ => va_P D vwCl [(t, .inr (2, [.ref t_codes, .int o_t_size]))] w_.heap ∧ va_D (va_A [(t, .inr (2, [.ref t_codes, .int t_size]))] sz) [(t, .inr (2, [.ref t_codes, .int o_t_size]))]) (va_A [(t, .inr (2, [.ref t_codes, .int t_size]))] sz)) 0 0 (va_A [(t, .inr (2, [.ref t_codes, .int t_size]))] sz) := by
  unfold mX2_clear at hM
  refine Met.ofW (cc := cX2_clear) (maxL := 1) (ret := none) (by decide) rfl ?_
  intro p e s m args below meth c s₁ B hml hv
  obtain ⟨rfl, hsz, hP, hE, hD0⟩ := hv
  have hx := B.exec
  have hb := B.bytes
  have hr := B.returns
  have hts := atoms_spec (ws := wsX2_clear) B.pre
  have hown : s.vm.findClass RX2 = some m.cls := findClass_of_methodNamed B.named
  have hlocks := B.notSynchronized
  have hK := hE.1
  subst hsz
  have hD := hD0.self (sz := s.heap.size)
  generalize hAe : va_A [(t, .inr (2, [.ref t_codes, .int t_size]))] s.heap.size = A at hD ⊢
  have hA : ∀ q : Nat, s.heap.size ≤ q → A q := fun q h => by rw [← hAe]; exact Or.inr h
  have hS : va_S A s.heap s.heap [] := va_S.rf
  have hl := lv_entry ([.ref t]) (n := 1) (Nat.le_of_ble_eq_true rfl)
  rw [lg_entry_eq]
  generalize (lg_sl ([.ref t]) ++ List.replicate (1 - (lg_sl ([.ref t])).length) Slot.unset).toArray = ls at hl ⊢
  have hl : lv_has ls 1 [(0, .ref t)] := hl
  refine mw_q (P := fun Q => W p l e (headSpec wsX2_clear rmX2_clear).room s m (([.ref t] : List Value).toArray) below meth c s.heap [] 0 0 Q (F0 m 0 ls [])) (fun Q hQ => ?_)
  refine lv_aload_n hx hb dX2_clear_0 rfl (lv_at hl 0 rfl) ?_
  refine lv_iconst (v := 0) hx hb dX2_clear_1 (by decide) ?_
  refine va_put (D := D) (ci := 2) (v := .int 0) (ty := .int) (C := RX2) (T := TX2) (N := 2) hx hb hts (fun _ h => List.mem_cons_of_mem _ (List.mem_append_right _ (h))) tyX2 tyX2_ok nmX2 hown hK hP hD hS 0 rfl rfl 1 (by decide) (hts (.fieldLink RX2 15 "MossWall$Page" "size" "I") (List.mem_cons_of_mem _ (List.mem_append_left _ (List.mem_of_getElem? (i := 0) rfl)))) (fun _ h9 => h9) rfl (by decide +kernel) rfl rfl (Nat.le_of_ble_eq_true rfl) dX2_clear_2 (fun H locs hP hD hS => ?_)
  have hP : va_P D vwCl [(t, .inr (2, [.ref t_codes, .int 0]))] H := hP
  have hD : va_D A [(t, .inr (2, [.ref t_codes, .int 0]))] := hD
  obtain rfl := mw_o1 hM
  subst hQ
  exact W.vret hx hb hr (fun t ht hW => ⟨⟨(), rfl, trivial, by rw [ht]; exact hP, hD⟩, hS.F ht⟩) hS.2.2 dX2_clear_5
def mX2_rainPlace_L1 (t_size : Int32) (c_t_codes : Nat → Int32) (k1_31 : Int32 → Option Int32) : Nat → Int32 → Option Int32
  | 0, _ => none
  | n1 + 1, x1_1 =>
    (if t_size ≤ x1_1 then k1_31 x1_1 else (mw_rd c_t_codes 36 x1_1).bind fun e2 => (if e2 = 59 then some (x1_1 + 1) else mX2_rainPlace_L1 t_size c_t_codes k1_31 n1 (x1_1 + 1)))
def mX2_rainPlace (t_size : Int32) (c_t_codes : Nat → Int32) : Option Int32 :=
  mX2_rainPlace_L1 t_size c_t_codes (fun (x1_1 : Int32) => some t_size) 300 0
abbrev rmX2_rainPlace : Room := ({ frames := 0, cells := 0, slots := 0, locals := 0 } : Room)
set_option maxHeartbeats 4000000 in
set_option maxRecDepth 100000 in
theorem kX2_rainPlace (l : Launch) (D : va_G) (cA : ClassId) (t t_codes : Nat) (t_size : Int32) (c_t_codes : Nat → Int32) (r : Int32) (hM : mX2_rainPlace t_size c_t_codes = some r) : Met l yX2_rainPlace wsX2_rainPlace rmX2_rainPlace (va_Pc [.ref t] (fun U => va_P D vwCl [(t, .inr (2, [.ref t_codes, .int t_size])), (t_codes, .inl (cA, 36, .inl c_t_codes))] U.heap ∧ mw_ev D cA U)) (vp_Si (fun v => v = r)) 0 0 (fun _ => False) := by
  unfold mX2_rainPlace at hM
  refine Met.ofW (cc := cX2_rainPlace) (maxL := 2) (ret := (some .int)) (by decide) rfl ?_
  intro p e s m args below meth c s₁ B hml hv
  obtain ⟨rfl, hP, hE⟩ := hv
  have hx := B.exec
  have hb := B.bytes
  have hr := B.returns
  have hts := atoms_spec (ws := wsX2_rainPlace) B.pre
  have hown : s.vm.findClass RX2 = some m.cls := findClass_of_methodNamed B.named
  have hlocks := B.notSynchronized
  have hK := hE.1
  have hl := lv_entry ([.ref t]) (n := 2) (Nat.le_of_ble_eq_true rfl)
  rw [lg_entry_eq]
  generalize (lg_sl ([.ref t]) ++ List.replicate (2 - (lg_sl ([.ref t])).length) Slot.unset).toArray = ls at hl ⊢
  have hl : lv_has ls 2 [(0, .ref t)] := hl
  refine mw_q (P := fun Q => W p l e (headSpec wsX2_rainPlace rmX2_rainPlace).room s m (([.ref t] : List Value).toArray) below meth c s.heap [] 0 0 Q (F0 m 0 ls [])) (fun Q hQ => ?_)
  refine lv_iconst (v := 0) hx hb dX2_rainPlace_0 (by decide) ?_
  refine lv_istore_n (lv' := [(1, .int 0), (0, .ref t)]) hx hb dX2_rainPlace_1 rfl hl (by decide) rfl (fun ls hl => ?_)
  obtain ⟨k1_31, jk1_31⟩ : ∃ k : Int32 → Option Int32, k = fun (x1_1 : Int32) => some t_size := ⟨_, rfl⟩
  have Ek1_31 : ∀ (x1_1 : Int32) (ls : Array Slot), lv_has ls 2 [(1, .int x1_1), (0, .ref t)] → k1_31 x1_1 = some r → W p l e (headSpec wsX2_rainPlace rmX2_rainPlace).room s m (([.ref t] : List Value).toArray) below meth c s.heap [] 0 0 Q (F0 m 31 ls []) := by
      intro x1_1 ls hl hM
      rw [jk1_31] at hM
      refine lv_aload_n hx hb dX2_rainPlace_31 rfl (lv_at hl 1 rfl) ?_
      refine va_get (D := D) (ci := 2) (v := .int t_size) (C := RX2) (T := TX2) (N := 2) hx hb hts (fun _ h => List.mem_cons_of_mem _ (List.mem_append_right _ (h))) hown hK hP 0 rfl rfl 1 (by decide) (hts (.fieldLink RX2 15 "MossWall$Page" "size" "I") (List.mem_cons_of_mem _ (List.mem_append_left _ (List.mem_of_getElem? (i := 0) rfl)))) (fun _ h9 => h9) rfl dX2_rainPlace_32 ?_
      obtain rfl := mw_o1 hM
      subst hQ
      exact W.iret hx hb hr (fun t ht hW => ⟨_, rfl, rfl, ht⟩) (fun q h => absurd h List.not_mem_nil) dX2_rainPlace_35
  have L1 : ∀ (n1 : Nat) (x1_1 : Int32) (ls : Array Slot), lv_has ls 2 [(1, .int x1_1), (0, .ref t)] → mX2_rainPlace_L1 t_size c_t_codes k1_31 n1 x1_1 = some r → W p l e (headSpec wsX2_rainPlace rmX2_rainPlace).room s m (([.ref t] : List Value).toArray) below meth c s.heap [] 0 0 Q (F0 m 2 ls []) := by
      intro n1
      induction n1 with
      | zero =>
        intro x1_1 ls hl hM
        rw [mX2_rainPlace_L1] at hM
        exact mw_none hM
      | succ n1 ih1 =>
        intro x1_1 ls hl hM
        rw [mX2_rainPlace_L1] at hM
        refine lv_iload_n hx hb dX2_rainPlace_2 rfl (lv_at hl 0 rfl) ?_
        refine lv_aload_n hx hb dX2_rainPlace_3 rfl (lv_at hl 1 rfl) ?_
        refine va_get (D := D) (ci := 2) (v := .int t_size) (C := RX2) (T := TX2) (N := 2) hx hb hts (fun _ h => List.mem_cons_of_mem _ (List.mem_append_right _ (h))) hown hK hP 0 rfl rfl 1 (by decide) (hts (.fieldLink RX2 15 "MossWall$Page" "size" "I") (List.mem_cons_of_mem _ (List.mem_append_left _ (List.mem_of_getElem? (i := 0) rfl)))) (fun _ h9 => h9) rfl dX2_rainPlace_4 ?_
        refine lv_icmp_ge (tgt := 31) hx hb dX2_rainPlace_7 (by decide) (fun q1 => ?_) (fun q1 => ?_)
        · replace hM := mw_t hM q1
          exact Ek1_31 x1_1 _ (lv_sub hl [0, 1] rfl) hM
        · replace hM := mw_f hM q1
          refine lv_aload_n hx hb dX2_rainPlace_10 rfl (lv_at hl 1 rfl) ?_
          refine va_get (D := D) (ci := 2) (v := .ref t_codes) (C := RX2) (T := TX2) (N := 2) hx hb hts (fun _ h => List.mem_cons_of_mem _ (List.mem_append_right _ (h))) hown hK hP 0 rfl rfl 0 (by decide) (hts (.fieldLink RX2 9 "MossWall$Page" "codes" "[I") (List.mem_cons_of_mem _ (List.mem_append_left _ (List.mem_of_getElem? (i := 1) rfl)))) (fun _ h9 => h9) rfl dX2_rainPlace_11 ?_
          refine lv_iload_n hx hb dX2_rainPlace_14 rfl (lv_at hl 0 rfl) ?_
          obtain ⟨e2, h2, hM⟩ := mw_d1 hM
          refine mw_iald hx hb hK hP 1 0 rfl rfl h2 dX2_rainPlace_15 ?_
          refine lv_bipush (v := 59) hx hb dX2_rainPlace_16 (by decide) ?_
          refine lv_icmp_ne (tgt := 25) hx hb dX2_rainPlace_18 (by decide) (fun q3 => ?_) (fun q3 => ?_)
          · replace hM := mw_f hM q3
            refine lv_iinc (v := x1_1 + 1) (lv' := [(1, .int (x1_1 + 1)), (0, .ref t)]) hx hb dX2_rainPlace_25 hl (k := 0) rfl (by first | rfl | decide) (by decide) rfl (fun ls hl => ?_)
            refine lv_goto (tgt := 2) hx hb dX2_rainPlace_28 (by decide) ?_
            exact ih1 (x1_1 + 1) _ (lv_sub hl [0, 1] rfl) hM
          · replace hM := mw_t hM q3
            refine lv_iload_n hx hb dX2_rainPlace_21 rfl (lv_at hl 0 rfl) ?_
            refine lv_iconst (v := 1) hx hb dX2_rainPlace_22 (by decide) ?_
            refine lv_iadd hx hb dX2_rainPlace_23 ?_
            obtain rfl := mw_o1 hM
            subst hQ
            exact W.iret hx hb hr (fun t ht hW => ⟨_, rfl, rfl, ht⟩) (fun q h => absurd h List.not_mem_nil) dX2_rainPlace_24
  exact L1 300 0 _ hl (by rw [jk1_31]; exact hM)
def mX2_copyRain_L1 (t_size : Int32) (c_t_codes : Nat → Int32) (k1_36 : Int32 → Int32 → (Nat → Int32) → Option (Int32 × (Nat → Int32))) : Nat → Int32 → Int32 → (Nat → Int32) → Option (Int32 × (Nat → Int32))
  | 0, _, _, _ => none
  | n1 + 1, x2_1, y1_p1_size, y1_p1_told =>
    (if t_size ≤ x2_1 then k1_36 x2_1 y1_p1_size y1_p1_told else (mX2_codeAt t_size c_t_codes x2_1).bind fun r3 => mw_b2 (mX5_add y1_p1_size y1_p1_told (r3 - 48)) fun u4_p1_size u4_p1_told => mX2_copyRain_L1 t_size c_t_codes k1_36 n1 (x2_1 + 1) u4_p1_size u4_p1_told)
def mX2_copyRain (t_size : Int32) (c_t_codes : Nat → Int32) (p1_size : Int32) (c_p1_told : Nat → Int32) : Option (Int32 × (Nat → Int32)) :=
  (mX2_rainPlace t_size c_t_codes).bind fun r1 => mX2_copyRain_L1 t_size c_t_codes (fun (x2_1 : Int32) (y1_p1_size : Int32) (y1_p1_told : Nat → Int32) => some (y1_p1_size, y1_p1_told)) 300 r1 p1_size c_p1_told
abbrev rmX2_copyRain : Room := ({ frames := 1, cells := 0, slots := 0, locals := 21 } : Room)
set_option maxHeartbeats 4000000 in
set_option maxRecDepth 100000 in
theorem kX2_copyRain (l : Launch) (D : va_G) (cA : ClassId) (t p1 t_codes p1_told : Nat) (sz : Nat) (t_size : Int32) (c_t_codes : Nat → Int32) (p1_size : Int32) (p1_next : Int32) (c_p1_told : Nat → Int32) (o_p1_size : Int32) (o_c_p1_told : Nat → Int32) (hM : mX2_copyRain t_size c_t_codes p1_size c_p1_told = some (o_p1_size, o_c_p1_told)) : Met l yX2_copyRain wsX2_copyRain rmX2_copyRain (va_Pc [.ref t, .ref p1] (fun U => U.heap.size = sz ∧ va_P D vwCl [(t, .inr (2, [.ref t_codes, .int t_size])), (t_codes, .inl (cA, 36, .inl c_t_codes)), (p1, .inr (5, [.ref p1_told, .int p1_size, .int p1_next])), (p1_told, .inl (cA, 8, .inl c_p1_told))] U.heap ∧ mw_ev D cA U ∧ va_D (fun _ => True) [(t, .inr (2, [.ref t_codes, .int t_size])), (t_codes, .inl (cA, 36, .inl c_t_codes)), (p1, .inr (5, [.ref p1_told, .int p1_size, .int p1_next])), (p1_told, .inl (cA, 8, .inl c_p1_told))])) (va_Qv (fun (_ : Unit) => True) (fun (_ : Unit) w_ => va_P D vwCl [(t, .inr (2, [.ref t_codes, .int t_size])), (t_codes, .inl (cA, 36, .inl c_t_codes)), (p1, .inr (5, [.ref p1_told, .int o_p1_size, .int p1_next])), (p1_told, .inl (cA, 8, .inl o_c_p1_told))] w_.heap ∧ va_D (va_A [(t, .inr (2, [.ref t_codes, .int t_size])), (t_codes, .inl (cA, 36, .inl c_t_codes)), (p1, .inr (5, [.ref p1_told, .int p1_size, .int p1_next])), (p1_told, .inl (cA, 8, .inl c_p1_told))] sz) [(t, .inr (2, [.ref t_codes, .int t_size])), (t_codes, .inl (cA, 36, .inl c_t_codes)), (p1, .inr (5, [.ref p1_told, .int o_p1_size, .int p1_next])), (p1_told, .inl (cA, 8, .inl o_c_p1_told))]) (va_A [(t, .inr (2, [.ref t_codes, .int t_size])), (t_codes, .inl (cA, 36, .inl c_t_codes)), (p1, .inr (5, [.ref p1_told, .int p1_size, .int p1_next])), (p1_told, .inl (cA, 8, .inl c_p1_told))] sz)) 0 0 (va_A [(t, .inr (2, [.ref t_codes, .int t_size])), (t_codes, .inl (cA, 36, .inl c_t_codes)), (p1, .inr (5, [.ref p1_told, .int p1_size, .int p1_next])), (p1_told, .inl (cA, 8, .inl c_p1_told))] sz) := by
  unfold mX2_copyRain at hM
  refine Met.ofW (cc := cX2_copyRain) (maxL := 3) (ret := none) (by decide) rfl ?_
  intro p e s m args below meth c s₁ B hml hv
  obtain ⟨rfl, hsz, hP, hE, hD0⟩ := hv
  have hx := B.exec
  have hb := B.bytes
  have hr := B.returns
  have hts := atoms_spec (ws := wsX2_copyRain) B.pre
  have hown : s.vm.findClass RX2 = some m.cls := findClass_of_methodNamed B.named
  have hlocks := B.notSynchronized
  have hK := hE.1
  subst hsz
  have hD := hD0.self (sz := s.heap.size)
  generalize hAe : va_A [(t, .inr (2, [.ref t_codes, .int t_size])), (t_codes, .inl (cA, 36, .inl c_t_codes)), (p1, .inr (5, [.ref p1_told, .int p1_size, .int p1_next])), (p1_told, .inl (cA, 8, .inl c_p1_told))] s.heap.size = A at hD ⊢
  have hA : ∀ q : Nat, s.heap.size ≤ q → A q := fun q h => by rw [← hAe]; exact Or.inr h
  have hS : va_S A s.heap s.heap [] := va_S.rf
  have hl := lv_entry ([.ref t, .ref p1]) (n := 3) (Nat.le_of_ble_eq_true rfl)
  rw [lg_entry_eq]
  generalize (lg_sl ([.ref t, .ref p1]) ++ List.replicate (3 - (lg_sl ([.ref t, .ref p1])).length) Slot.unset).toArray = ls at hl ⊢
  have hl : lv_has ls 3 [(0, .ref t), (1, .ref p1)] := hl
  refine mw_q (P := fun Q => W p l e (headSpec wsX2_copyRain rmX2_copyRain).room s m (([.ref t, .ref p1] : List Value).toArray) below meth c s.heap [] 0 0 Q (F0 m 0 ls [])) (fun Q hQ => ?_)
  refine lv_aload_n hx hb dX2_copyRain_0 rfl (lv_at hl 1 rfl) ?_
  refine lv_ifnonnull (tgt := 5) hx hb dX2_copyRain_1 (by decide) ?_
  refine lv_aload_n hx hb dX2_copyRain_5 rfl (lv_at hl 0 rfl) ?_
  obtain ⟨r1, h1, hM⟩ := mw_d1 hM
  have hPc := hP.sub (ws' := [(t, .inr (2, [.ref t_codes, .int t_size])), (t_codes, .inl (cA, 36, .inl c_t_codes))]) [0, 1] rfl
  refine vp_callSi (va_Run.run (va_runV (As := []) (rest := []) ⟨hx, hb, hml, hown, hts⟩ (kX2_rainPlace l D cA t t_codes t_size c_t_codes r1 h1) (cwV 0 hts gX2_copyRain_X2_rainPlace rfl rfl rfl (by decide +kernel) ⟨Nat.le_of_ble_eq_true rfl, Nat.le_of_ble_eq_true rfl⟩) ⟨mw_fbR, va_recv hK hP (ci := 2) (q0 := 0) rfl rfl, mw_puR hPc hE⟩ rfl rfl hl.1 rfl (lv_room (Nat.le_of_ble_eq_true rfl)) dX2_copyRain_6 ⟨Nat.zero_le _, Nat.zero_le _⟩)) (fun v_ e_ => ?_)
  subst v_
  refine lv_istore_n (lv' := [(2, .int r1), (0, .ref t), (1, .ref p1)]) hx hb dX2_copyRain_9 rfl hl (by decide) rfl (fun ls hl => ?_)
  obtain ⟨k1_36, jk1_36⟩ : ∃ k : Int32 → Int32 → (Nat → Int32) → Option (Int32 × (Nat → Int32)), k = fun (x2_1 : Int32) (y1_p1_size : Int32) (y1_p1_told : Nat → Int32) => some (y1_p1_size, y1_p1_told) := ⟨_, rfl⟩
  have Ek1_36 : ∀ (x2_1 : Int32) (y1_p1_size : Int32) (y1_p1_told : Nat → Int32) (H : Heap) (locs : List Loc) (ls : Array Slot), va_P D vwCl [(t, .inr (2, [.ref t_codes, .int t_size])), (t_codes, .inl (cA, 36, .inl c_t_codes)), (p1, .inr (5, [.ref p1_told, .int y1_p1_size, .int p1_next])), (p1_told, .inl (cA, 8, .inl y1_p1_told))] H → va_D A [(t, .inr (2, [.ref t_codes, .int t_size])), (t_codes, .inl (cA, 36, .inl c_t_codes)), (p1, .inr (5, [.ref p1_told, .int y1_p1_size, .int p1_next])), (p1_told, .inl (cA, 8, .inl y1_p1_told))] → va_S A s.heap H locs → lv_has ls 3 [(2, .int x2_1), (0, .ref t), (1, .ref p1)] → k1_36 x2_1 y1_p1_size y1_p1_told = some (o_p1_size, o_c_p1_told) → W p l e (headSpec wsX2_copyRain rmX2_copyRain).room s m (([.ref t, .ref p1] : List Value).toArray) below meth c H locs 0 0 Q (F0 m 36 ls []) := by
      intro x2_1 y1_p1_size y1_p1_told H locs ls hP hD hS hl hM
      rw [jk1_36] at hM
      obtain ⟨rfl, rfl⟩ := mw_o2 hM
      subst hQ
      exact W.vret hx hb hr (fun t ht hW => ⟨⟨(), rfl, trivial, by rw [ht]; exact hP, hD⟩, hS.F ht⟩) hS.2.2 dX2_copyRain_36
  have L1 : ∀ (n1 : Nat) (x2_1 : Int32) (y1_p1_size : Int32) (y1_p1_told : Nat → Int32) (H : Heap) (locs : List Loc) (ls : Array Slot), va_P D vwCl [(t, .inr (2, [.ref t_codes, .int t_size])), (t_codes, .inl (cA, 36, .inl c_t_codes)), (p1, .inr (5, [.ref p1_told, .int y1_p1_size, .int p1_next])), (p1_told, .inl (cA, 8, .inl y1_p1_told))] H → va_D A [(t, .inr (2, [.ref t_codes, .int t_size])), (t_codes, .inl (cA, 36, .inl c_t_codes)), (p1, .inr (5, [.ref p1_told, .int y1_p1_size, .int p1_next])), (p1_told, .inl (cA, 8, .inl y1_p1_told))] → va_S A s.heap H locs → lv_has ls 3 [(2, .int x2_1), (0, .ref t), (1, .ref p1)] → mX2_copyRain_L1 t_size c_t_codes k1_36 n1 x2_1 y1_p1_size y1_p1_told = some (o_p1_size, o_c_p1_told) → W p l e (headSpec wsX2_copyRain rmX2_copyRain).room s m (([.ref t, .ref p1] : List Value).toArray) below meth c H locs 0 0 Q (F0 m 10 ls []) := by
      intro n1
      induction n1 with
      | zero =>
        intro x2_1 y1_p1_size y1_p1_told H locs ls hP hD hS hl hM
        rw [mX2_copyRain_L1] at hM
        exact mw_none hM
      | succ n1 ih1 =>
        intro x2_1 y1_p1_size y1_p1_told H locs ls hP hD hS hl hM
        rw [mX2_copyRain_L1] at hM
        refine lv_iload_n hx hb dX2_copyRain_10 rfl (lv_at hl 0 rfl) ?_
        refine lv_aload_n hx hb dX2_copyRain_11 rfl (lv_at hl 1 rfl) ?_
        refine va_get (D := D) (ci := 2) (v := .int t_size) (C := RX2) (T := TX2) (N := 2) hx hb hts (fun _ h => List.mem_cons_of_mem _ (List.mem_append_left _ (List.mem_append_right _ (h)))) hown hK hP 0 rfl rfl 1 (by decide) (hts (.fieldLink RX2 15 "MossWall$Page" "size" "I") (List.mem_cons_of_mem _ (List.mem_append_left _ (List.mem_append_left _ (List.mem_of_getElem? (i := 0) rfl))))) (fun _ h9 => h9) rfl dX2_copyRain_12 ?_
        refine lv_icmp_ge (tgt := 36) hx hb dX2_copyRain_15 (by decide) (fun q2 => ?_) (fun q2 => ?_)
        · replace hM := mw_t hM q2
          exact Ek1_36 x2_1 y1_p1_size y1_p1_told _ _ _ hP hD hS (lv_sub hl [0, 1, 2] rfl) hM
        · replace hM := mw_f hM q2
          refine lv_aload_n hx hb dX2_copyRain_18 rfl (lv_at hl 2 rfl) ?_
          refine lv_aload_n hx hb dX2_copyRain_19 rfl (lv_at hl 1 rfl) ?_
          refine lv_iload_n hx hb dX2_copyRain_20 rfl (lv_at hl 0 rfl) ?_
          obtain ⟨r3, h3, hM⟩ := mw_d1 hM
          have hPc := hP.sub (ws' := [(t, .inr (2, [.ref t_codes, .int t_size])), (t_codes, .inl (cA, 36, .inl c_t_codes))]) [0, 1] rfl
          refine vp_callSi (va_Run.run (va_runV (As := [.int x2_1]) (rest := [.ref p1]) ⟨hx, hb, hml, hown, hts⟩ (kX2_codeAt l D cA t t_codes t_size c_t_codes x2_1 r3 h3) (cwV 1 hts gX2_copyRain_X2_codeAt rfl rfl rfl (by decide +kernel) ⟨Nat.le_of_ble_eq_true rfl, Nat.le_of_ble_eq_true rfl⟩) ⟨mw_fbR, va_recv hK hP (ci := 2) (q0 := 0) rfl rfl, mw_puR hPc hE⟩ rfl rfl hl.1 rfl (lv_room (Nat.le_of_ble_eq_true rfl)) dX2_copyRain_21 ⟨Nat.zero_le _, Nat.zero_le _⟩)) (fun v_ e_ => ?_)
          subst v_
          refine lv_bipush (v := 48) hx hb dX2_copyRain_24 (by decide) ?_
          refine lv_isub hx hb dX2_copyRain_26 ?_
          obtain ⟨u4_p1_size, u4_p1_told, h4, hM⟩ := mw_d2 hM
          have hPc := hP.sub (ws' := [(p1, .inr (5, [.ref p1_told, .int y1_p1_size, .int p1_next])), (p1_told, .inl (cA, 8, .inl y1_p1_told))]) [2, 3] rfl
          have hDc := hD.sub (ws' := [(p1, .inr (5, [.ref p1_told, .int y1_p1_size, .int p1_next])), (p1_told, .inl (cA, 8, .inl y1_p1_told))]) [2, 3] (by decide) rfl
          have hFc := va_free (wc := [(p1, .inr (5, [.ref p1_told, .int y1_p1_size, .int p1_next])), (p1_told, .inl (cA, 8, .inl y1_p1_told))]) hD hS hA [2, 3] rfl
          refine va_callv (va_runV (As := [.int (r3 - 48)]) (rest := []) ⟨hx, hb, hml, hown, hts⟩ (kX5_add l D cA p1 p1_told _ y1_p1_size p1_next y1_p1_told (r3 - 48) u4_p1_size u4_p1_told h4) (cwV 1 hts gX2_copyRain_X5_add rfl rfl rfl (by decide +kernel) ⟨Nat.le_of_ble_eq_true rfl, Nat.le_of_ble_eq_true rfl⟩) ⟨mw_fbW, va_recv hK hP (ci := 5) (q0 := 2) rfl rfl, mw_puW hPc hE hDc⟩ rfl rfl hl.1 rfl (lv_room (Nat.le_of_ble_eq_true rfl)) dX2_copyRain_27 ⟨Nat.zero_le _, Nat.zero_le _⟩) hS (fun q _ h => hFc q h) hFc (fun _ t_ H locs ht_ _ _ hB_ _ hk_ hS => ?_)
          obtain ⟨hP1, hD1⟩ := hB_
          rw [ht_] at hP1
          obtain ⟨hP, hD⟩ := va_join (wr := [(t, .inr (2, [.ref t_codes, .int t_size])), (t_codes, .inl (cA, 36, .inl c_t_codes))]) (w1 := [(p1, .inr (5, [.ref p1_told, .int u4_p1_size, .int p1_next])), (p1_told, .inl (cA, 8, .inl u4_p1_told))]) hP hD [2, 3] [0, 1] rfl rfl (by decide) (by decide) hk_ hFc hP1 hD1
          have hP : va_P D vwCl [(t, .inr (2, [.ref t_codes, .int t_size])), (t_codes, .inl (cA, 36, .inl c_t_codes)), (p1, .inr (5, [.ref p1_told, .int u4_p1_size, .int p1_next])), (p1_told, .inl (cA, 8, .inl u4_p1_told))] H := hP
          have hD : va_D A [(t, .inr (2, [.ref t_codes, .int t_size])), (t_codes, .inl (cA, 36, .inl c_t_codes)), (p1, .inr (5, [.ref p1_told, .int u4_p1_size, .int p1_next])), (p1_told, .inl (cA, 8, .inl u4_p1_told))] := hD
          refine lv_iinc (v := x2_1 + 1) (lv' := [(2, .int (x2_1 + 1)), (0, .ref t), (1, .ref p1)]) hx hb dX2_copyRain_30 hl (k := 0) rfl (by first | rfl | decide) (by decide) rfl (fun ls hl => ?_)
          refine lv_goto (tgt := 10) hx hb dX2_copyRain_33 (by decide) ?_
          exact ih1 (x2_1 + 1) u4_p1_size u4_p1_told _ _ _ hP hD hS (lv_sub hl [0, 1, 2] rfl) hM
  exact L1 300 r1 p1_size c_p1_told _ _ _ hP hD hS hl (by rw [jk1_36]; exact hM)
def mX2_fitsRain (p1 : Int32) (p2 : Int32) : Option Int32 :=
  (if 8 ≤ p1 then some 0 else (if p2 < 48 then some 0 else (if 51 < p2 then some 0 else some 1)))
abbrev rmX2_fitsRain : Room := ({ frames := 0, cells := 0, slots := 0, locals := 0 } : Room)
set_option maxHeartbeats 4000000 in
set_option maxRecDepth 100000 in
theorem kX2_fitsRain (l : Launch) (D : va_G) (cA : ClassId) (p1 : Int32) (p2 : Int32) (r : Int32) (hM : mX2_fitsRain p1 p2 = some r) : Met l yX2_fitsRain wsX2_fitsRain rmX2_fitsRain (va_Pc [.int p1, .int p2] (fun U => va_P D vwCl [] U.heap ∧ mw_ev D cA U)) (vp_Si (fun v => v = r ∧ narrow .boolean (.int v) = .int v)) 0 0 (fun _ => False) := by
  unfold mX2_fitsRain at hM
  refine Met.ofW (cc := cX2_fitsRain) (maxL := 2) (ret := (some .boolean)) (by decide) rfl ?_
  intro p e s m args below meth c s₁ B hml hv
  obtain ⟨rfl, hP, hE⟩ := hv
  have hx := B.exec
  have hb := B.bytes
  have hr := B.returns
  have hts := atoms_spec (ws := wsX2_fitsRain) B.pre
  have hown : s.vm.findClass RX2 = some m.cls := findClass_of_methodNamed B.named
  have hlocks := B.notSynchronized
  have hK := hE.1
  have hl := lv_entry ([.int p1, .int p2]) (n := 2) (Nat.le_of_ble_eq_true rfl)
  rw [lg_entry_eq]
  generalize (lg_sl ([.int p1, .int p2]) ++ List.replicate (2 - (lg_sl ([.int p1, .int p2])).length) Slot.unset).toArray = ls at hl ⊢
  have hl : lv_has ls 2 [(0, .int p1), (1, .int p2)] := hl
  refine mw_q (P := fun Q => W p l e (headSpec wsX2_fitsRain rmX2_fitsRain).room s m (([.int p1, .int p2] : List Value).toArray) below meth c s.heap [] 0 0 Q (F0 m 0 ls [])) (fun Q hQ => ?_)
  refine lv_iload_n hx hb dX2_fitsRain_0 rfl (lv_at hl 0 rfl) ?_
  refine lv_bipush (v := 8) hx hb dX2_fitsRain_1 (by decide) ?_
  refine lv_icmp_ge (tgt := 22) hx hb dX2_fitsRain_3 (by decide) (fun q1 => ?_) (fun q1 => ?_)
  · replace hM := mw_t hM q1
    refine lv_iconst (v := 0) hx hb dX2_fitsRain_22 (by decide) ?_
    obtain rfl := mw_o1 hM
    subst hQ
    exact W.zret hx hb hr rfl (fun t ht hW => ⟨_, rfl, ⟨rfl, rfl⟩, ht⟩) (fun q h => absurd h List.not_mem_nil) dX2_fitsRain_23
  · replace hM := mw_f hM q1
    refine lv_iload_n hx hb dX2_fitsRain_6 rfl (lv_at hl 1 rfl) ?_
    refine lv_bipush (v := 48) hx hb dX2_fitsRain_7 (by decide) ?_
    refine lv_icmp_lt (tgt := 22) hx hb dX2_fitsRain_9 (by decide) (fun q2 => ?_) (fun q2 => ?_)
    · replace hM := mw_t hM q2
      refine lv_iconst (v := 0) hx hb dX2_fitsRain_22 (by decide) ?_
      obtain rfl := mw_o1 hM
      subst hQ
      exact W.zret hx hb hr rfl (fun t ht hW => ⟨_, rfl, ⟨rfl, rfl⟩, ht⟩) (fun q h => absurd h List.not_mem_nil) dX2_fitsRain_23
    · replace hM := mw_f hM q2
      refine lv_iload_n hx hb dX2_fitsRain_12 rfl (lv_at hl 1 rfl) ?_
      refine lv_bipush (v := 51) hx hb dX2_fitsRain_13 (by decide) ?_
      refine lv_icmp_gt (tgt := 22) hx hb dX2_fitsRain_15 (by decide) (fun q3 => ?_) (fun q3 => ?_)
      · replace hM := mw_t hM q3
        refine lv_iconst (v := 0) hx hb dX2_fitsRain_22 (by decide) ?_
        obtain rfl := mw_o1 hM
        subst hQ
        exact W.zret hx hb hr rfl (fun t ht hW => ⟨_, rfl, ⟨rfl, rfl⟩, ht⟩) (fun q h => absurd h List.not_mem_nil) dX2_fitsRain_23
      · replace hM := mw_f hM q3
        refine lv_iconst (v := 1) hx hb dX2_fitsRain_18 (by decide) ?_
        refine lv_goto (tgt := 23) hx hb dX2_fitsRain_19 (by decide) ?_
        obtain rfl := mw_o1 hM
        subst hQ
        exact W.zret hx hb hr rfl (fun t ht hW => ⟨_, rfl, ⟨rfl, rfl⟩, ht⟩) (fun q h => absurd h List.not_mem_nil) dX2_fitsRain_23
