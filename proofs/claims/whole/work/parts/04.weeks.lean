def mX5_size (t_size : Int32) : Option Int32 :=
  some t_size
abbrev rmX5_size : Room := ({ frames := 0, cells := 0, slots := 0, locals := 0 } : Room)
set_option maxHeartbeats 4000000 in
set_option maxRecDepth 100000 in
theorem kX5_size (l : Launch) (D : va_G) (cA : ClassId) (t t_told : Nat) (t_size : Int32) (t_next : Int32) (r : Int32) (hM : mX5_size t_size = some r) : Met l yX5_size wsX5_size rmX5_size (va_Pc [.ref t] (fun U => va_P D vwCl [(t, .inr (5, [.ref t_told, .int t_size, .int t_next]))] U.heap ∧ mw_ev D cA U)) (vp_Si (fun v => v = r)) 0 0 (fun _ => False) := by
  unfold mX5_size at hM
  refine Met.ofW (cc := cX5_size) (maxL := 1) (ret := (some .int)) (by decide) rfl ?_
  intro p e s m args below meth c s₁ B hml hv
  obtain ⟨rfl, hP, hE⟩ := hv
  have hx := B.exec
  have hb := B.bytes
  have hr := B.returns
  have hts := atoms_spec (ws := wsX5_size) B.pre
  have hown : s.vm.findClass RX5 = some m.cls := findClass_of_methodNamed B.named
  have hlocks := B.notSynchronized
  have hK := hE.1
  have hl := lv_entry ([.ref t]) (n := 1) (Nat.le_of_ble_eq_true rfl)
  rw [lg_entry_eq]
  generalize (lg_sl ([.ref t]) ++ List.replicate (1 - (lg_sl ([.ref t])).length) Slot.unset).toArray = ls at hl ⊢
  have hl : lv_has ls 1 [(0, .ref t)] := hl
  refine mw_q (P := fun Q => W p l e (headSpec wsX5_size rmX5_size).room s m (([.ref t] : List Value).toArray) below meth c s.heap [] 0 0 Q (F0 m 0 ls [])) (fun Q hQ => ?_)
  refine lv_aload_n hx hb dX5_size_0 rfl (lv_at hl 0 rfl) ?_
  refine va_get (D := D) (ci := 5) (v := .int t_size) (C := RX5) (T := TX5) (N := 3) hx hb hts (fun _ h => List.mem_cons_of_mem _ (List.mem_append_right _ (h))) hown hK hP 0 rfl rfl 1 (by decide) (hts (.fieldLink RX5 15 "MossWall$Weeks" "size" "I") (List.mem_cons_of_mem _ (List.mem_append_left _ (List.mem_of_getElem? (i := 0) rfl)))) (fun _ h9 => h9) rfl dX5_size_1 ?_
  obtain rfl := mw_o1 hM
  subst hQ
  exact W.iret hx hb hr (fun t ht hW => ⟨_, rfl, rfl, ht⟩) (fun q h => absurd h List.not_mem_nil) dX5_size_4
def mX5_next (t_next : Int32) : Option Int32 :=
  some t_next
abbrev rmX5_next : Room := ({ frames := 0, cells := 0, slots := 0, locals := 0 } : Room)
set_option maxHeartbeats 4000000 in
set_option maxRecDepth 100000 in
theorem kX5_next (l : Launch) (D : va_G) (cA : ClassId) (t t_told : Nat) (t_size : Int32) (t_next : Int32) (r : Int32) (hM : mX5_next t_next = some r) : Met l yX5_next wsX5_next rmX5_next (va_Pc [.ref t] (fun U => va_P D vwCl [(t, .inr (5, [.ref t_told, .int t_size, .int t_next]))] U.heap ∧ mw_ev D cA U)) (vp_Si (fun v => v = r)) 0 0 (fun _ => False) := by
  unfold mX5_next at hM
  refine Met.ofW (cc := cX5_next) (maxL := 1) (ret := (some .int)) (by decide) rfl ?_
  intro p e s m args below meth c s₁ B hml hv
  obtain ⟨rfl, hP, hE⟩ := hv
  have hx := B.exec
  have hb := B.bytes
  have hr := B.returns
  have hts := atoms_spec (ws := wsX5_next) B.pre
  have hown : s.vm.findClass RX5 = some m.cls := findClass_of_methodNamed B.named
  have hlocks := B.notSynchronized
  have hK := hE.1
  have hl := lv_entry ([.ref t]) (n := 1) (Nat.le_of_ble_eq_true rfl)
  rw [lg_entry_eq]
  generalize (lg_sl ([.ref t]) ++ List.replicate (1 - (lg_sl ([.ref t])).length) Slot.unset).toArray = ls at hl ⊢
  have hl : lv_has ls 1 [(0, .ref t)] := hl
  refine mw_q (P := fun Q => W p l e (headSpec wsX5_next rmX5_next).room s m (([.ref t] : List Value).toArray) below meth c s.heap [] 0 0 Q (F0 m 0 ls [])) (fun Q hQ => ?_)
  refine lv_aload_n hx hb dX5_next_0 rfl (lv_at hl 0 rfl) ?_
  refine va_get (D := D) (ci := 5) (v := .int t_next) (C := RX5) (T := TX5) (N := 3) hx hb hts (fun _ h => List.mem_cons_of_mem _ (List.mem_append_right _ (h))) hown hK hP 0 rfl rfl 2 (by decide) (hts (.fieldLink RX5 19 "MossWall$Weeks" "next" "I") (List.mem_cons_of_mem _ (List.mem_append_left _ (List.mem_of_getElem? (i := 0) rfl)))) (fun _ h9 => h9) rfl dX5_next_1 ?_
  obtain rfl := mw_o1 hM
  subst hQ
  exact W.iret hx hb hr (fun t ht hW => ⟨_, rfl, rfl, ht⟩) (fun q h => absurd h List.not_mem_nil) dX5_next_4
def mX5_rainOf (t_size : Int32) (c_t_told : Nat → Int32) (p1 : Int32) : Option Int32 :=
  (if t_size ≤ 0 then some 0 else (if p1 < 0 then some 0 else (mw_rm p1 t_size).bind fun e3 => (mw_rd c_t_told 8 e3).bind fun e4 => some e4))
abbrev rmX5_rainOf : Room := ({ frames := 0, cells := 0, slots := 0, locals := 0 } : Room)
set_option maxHeartbeats 4000000 in
set_option maxRecDepth 100000 in
theorem kX5_rainOf (l : Launch) (D : va_G) (cA : ClassId) (t t_told : Nat) (t_size : Int32) (t_next : Int32) (c_t_told : Nat → Int32) (p1 : Int32) (r : Int32) (hM : mX5_rainOf t_size c_t_told p1 = some r) : Met l yX5_rainOf wsX5_rainOf rmX5_rainOf (va_Pc [.ref t, .int p1] (fun U => va_P D vwCl [(t, .inr (5, [.ref t_told, .int t_size, .int t_next])), (t_told, .inl (cA, 8, .inl c_t_told))] U.heap ∧ mw_ev D cA U)) (vp_Si (fun v => v = r)) 0 0 (fun _ => False) := by
  unfold mX5_rainOf at hM
  refine Met.ofW (cc := cX5_rainOf) (maxL := 2) (ret := (some .int)) (by decide) rfl ?_
  intro p e s m args below meth c s₁ B hml hv
  obtain ⟨rfl, hP, hE⟩ := hv
  have hx := B.exec
  have hb := B.bytes
  have hr := B.returns
  have hts := atoms_spec (ws := wsX5_rainOf) B.pre
  have hown : s.vm.findClass RX5 = some m.cls := findClass_of_methodNamed B.named
  have hlocks := B.notSynchronized
  have hK := hE.1
  have hl := lv_entry ([.ref t, .int p1]) (n := 2) (Nat.le_of_ble_eq_true rfl)
  rw [lg_entry_eq]
  generalize (lg_sl ([.ref t, .int p1]) ++ List.replicate (2 - (lg_sl ([.ref t, .int p1])).length) Slot.unset).toArray = ls at hl ⊢
  have hl : lv_has ls 2 [(0, .ref t), (1, .int p1)] := hl
  refine mw_q (P := fun Q => W p l e (headSpec wsX5_rainOf rmX5_rainOf).room s m (([.ref t, .int p1] : List Value).toArray) below meth c s.heap [] 0 0 Q (F0 m 0 ls [])) (fun Q hQ => ?_)
  refine lv_aload_n hx hb dX5_rainOf_0 rfl (lv_at hl 0 rfl) ?_
  refine va_get (D := D) (ci := 5) (v := .int t_size) (C := RX5) (T := TX5) (N := 3) hx hb hts (fun _ h => List.mem_cons_of_mem _ (List.mem_append_right _ (h))) hown hK hP 0 rfl rfl 1 (by decide) (hts (.fieldLink RX5 15 "MossWall$Weeks" "size" "I") (List.mem_cons_of_mem _ (List.mem_append_left _ (List.mem_of_getElem? (i := 0) rfl)))) (fun _ h9 => h9) rfl dX5_rainOf_1 ?_
  refine lv_if_le (tgt := 25) hx hb dX5_rainOf_4 (by decide) (fun q1 => ?_) (fun q1 => ?_)
  · replace hM := mw_t hM q1
    refine lv_iconst (v := 0) hx hb dX5_rainOf_25 (by decide) ?_
    obtain rfl := mw_o1 hM
    subst hQ
    exact W.iret hx hb hr (fun t ht hW => ⟨_, rfl, rfl, ht⟩) (fun q h => absurd h List.not_mem_nil) dX5_rainOf_26
  · replace hM := mw_f hM q1
    refine lv_iload_n hx hb dX5_rainOf_7 rfl (lv_at hl 1 rfl) ?_
    refine lv_if_lt (tgt := 25) hx hb dX5_rainOf_8 (by decide) (fun q2 => ?_) (fun q2 => ?_)
    · replace hM := mw_t hM q2
      refine lv_iconst (v := 0) hx hb dX5_rainOf_25 (by decide) ?_
      obtain rfl := mw_o1 hM
      subst hQ
      exact W.iret hx hb hr (fun t ht hW => ⟨_, rfl, rfl, ht⟩) (fun q h => absurd h List.not_mem_nil) dX5_rainOf_26
    · replace hM := mw_f hM q2
      refine lv_aload_n hx hb dX5_rainOf_11 rfl (lv_at hl 0 rfl) ?_
      refine va_get (D := D) (ci := 5) (v := .ref t_told) (C := RX5) (T := TX5) (N := 3) hx hb hts (fun _ h => List.mem_cons_of_mem _ (List.mem_append_right _ (h))) hown hK hP 0 rfl rfl 0 (by decide) (hts (.fieldLink RX5 9 "MossWall$Weeks" "told" "[I") (List.mem_cons_of_mem _ (List.mem_append_left _ (List.mem_of_getElem? (i := 1) rfl)))) (fun _ h9 => h9) rfl dX5_rainOf_12 ?_
      refine lv_iload_n hx hb dX5_rainOf_15 rfl (lv_at hl 1 rfl) ?_
      refine lv_aload_n hx hb dX5_rainOf_16 rfl (lv_at hl 0 rfl) ?_
      refine va_get (D := D) (ci := 5) (v := .int t_size) (C := RX5) (T := TX5) (N := 3) hx hb hts (fun _ h => List.mem_cons_of_mem _ (List.mem_append_right _ (h))) hown hK hP 0 rfl rfl 1 (by decide) (hts (.fieldLink RX5 15 "MossWall$Weeks" "size" "I") (List.mem_cons_of_mem _ (List.mem_append_left _ (List.mem_of_getElem? (i := 0) rfl)))) (fun _ h9 => h9) rfl dX5_rainOf_17 ?_
      obtain ⟨e3, h3, hM⟩ := mw_d1 hM
      refine mw_irem hx hb h3 dX5_rainOf_20 ?_
      obtain ⟨e4, h4, hM⟩ := mw_d1 hM
      refine mw_iald hx hb hK hP 1 0 rfl rfl h4 dX5_rainOf_21 ?_
      refine lv_goto (tgt := 26) hx hb dX5_rainOf_22 (by decide) ?_
      obtain rfl := mw_o1 hM
      subst hQ
      exact W.iret hx hb hr (fun t ht hW => ⟨_, rfl, rfl, ht⟩) (fun q h => absurd h List.not_mem_nil) dX5_rainOf_26
def mX5_clear (t_size : Int32) (t_next : Int32) : Option (Int32 × Int32) :=
  some (0, 0)
abbrev rmX5_clear : Room := ({ frames := 0, cells := 0, slots := 0, locals := 0 } : Room)
set_option maxHeartbeats 4000000 in
set_option maxRecDepth 100000 in
theorem kX5_clear (l : Launch) (D : va_G) (cA : ClassId) (t t_told : Nat) (sz : Nat) (t_size : Int32) (t_next : Int32) (o_t_size : Int32) (o_t_next : Int32) (hM : mX5_clear t_size t_next = some (o_t_size, o_t_next)) : Met l yX5_clear wsX5_clear rmX5_clear (va_Pc [.ref t] (fun U => U.heap.size = sz ∧ va_P D vwCl [(t, .inr (5, [.ref t_told, .int t_size, .int t_next]))] U.heap ∧ mw_ev D cA U ∧ va_D (fun _ => True) [(t, .inr (5, [.ref t_told, .int t_size, .int t_next]))])) (va_Qv (fun (_ : Unit) => True) (fun (_ : Unit) w_ => va_P D vwCl [(t, .inr (5, [.ref t_told, .int o_t_size, .int o_t_next]))] w_.heap ∧ va_D (va_A [(t, .inr (5, [.ref t_told, .int t_size, .int t_next]))] sz) [(t, .inr (5, [.ref t_told, .int o_t_size, .int o_t_next]))]) (va_A [(t, .inr (5, [.ref t_told, .int t_size, .int t_next]))] sz)) 0 0 (va_A [(t, .inr (5, [.ref t_told, .int t_size, .int t_next]))] sz) := by
  unfold mX5_clear at hM
  refine Met.ofW (cc := cX5_clear) (maxL := 1) (ret := none) (by decide) rfl ?_
  intro p e s m args below meth c s₁ B hml hv
  obtain ⟨rfl, hsz, hP, hE, hD0⟩ := hv
  have hx := B.exec
  have hb := B.bytes
  have hr := B.returns
  have hts := atoms_spec (ws := wsX5_clear) B.pre
  have hown : s.vm.findClass RX5 = some m.cls := findClass_of_methodNamed B.named
  have hlocks := B.notSynchronized
  have hK := hE.1
  subst hsz
  have hD := hD0.self (sz := s.heap.size)
  generalize hAe : va_A [(t, .inr (5, [.ref t_told, .int t_size, .int t_next]))] s.heap.size = A at hD ⊢
  have hA : ∀ q : Nat, s.heap.size ≤ q → A q := fun q h => by rw [← hAe]; exact Or.inr h
  have hS : va_S A s.heap s.heap [] := va_S.rf
  have hl := lv_entry ([.ref t]) (n := 1) (Nat.le_of_ble_eq_true rfl)
  rw [lg_entry_eq]
  generalize (lg_sl ([.ref t]) ++ List.replicate (1 - (lg_sl ([.ref t])).length) Slot.unset).toArray = ls at hl ⊢
  have hl : lv_has ls 1 [(0, .ref t)] := hl
  refine mw_q (P := fun Q => W p l e (headSpec wsX5_clear rmX5_clear).room s m (([.ref t] : List Value).toArray) below meth c s.heap [] 0 0 Q (F0 m 0 ls [])) (fun Q hQ => ?_)
  refine lv_aload_n hx hb dX5_clear_0 rfl (lv_at hl 0 rfl) ?_
  refine lv_iconst (v := 0) hx hb dX5_clear_1 (by decide) ?_
  refine va_put (D := D) (ci := 5) (v := .int 0) (ty := .int) (C := RX5) (T := TX5) (N := 3) hx hb hts (fun _ h => List.mem_cons_of_mem _ (List.mem_append_right _ (h))) tyX5 tyX5_ok nmX5 hown hK hP hD hS 0 rfl rfl 1 (by decide) (hts (.fieldLink RX5 15 "MossWall$Weeks" "size" "I") (List.mem_cons_of_mem _ (List.mem_append_left _ (List.mem_of_getElem? (i := 0) rfl)))) (fun _ h9 => h9) rfl (by decide +kernel) rfl rfl (Nat.le_of_ble_eq_true rfl) dX5_clear_2 (fun H locs hP hD hS => ?_)
  have hP : va_P D vwCl [(t, .inr (5, [.ref t_told, .int 0, .int t_next]))] H := hP
  have hD : va_D A [(t, .inr (5, [.ref t_told, .int 0, .int t_next]))] := hD
  refine lv_aload_n hx hb dX5_clear_5 rfl (lv_at hl 0 rfl) ?_
  refine lv_iconst (v := 0) hx hb dX5_clear_6 (by decide) ?_
  refine va_put (D := D) (ci := 5) (v := .int 0) (ty := .int) (C := RX5) (T := TX5) (N := 3) hx hb hts (fun _ h => List.mem_cons_of_mem _ (List.mem_append_right _ (h))) tyX5 tyX5_ok nmX5 hown hK hP hD hS 0 rfl rfl 2 (by decide) (hts (.fieldLink RX5 19 "MossWall$Weeks" "next" "I") (List.mem_cons_of_mem _ (List.mem_append_left _ (List.mem_of_getElem? (i := 1) rfl)))) (fun _ h9 => h9) rfl (by decide +kernel) rfl rfl (Nat.le_of_ble_eq_true rfl) dX5_clear_7 (fun H locs hP hD hS => ?_)
  have hP : va_P D vwCl [(t, .inr (5, [.ref t_told, .int 0, .int 0]))] H := hP
  have hD : va_D A [(t, .inr (5, [.ref t_told, .int 0, .int 0]))] := hD
  obtain ⟨rfl, rfl⟩ := mw_o2 hM
  subst hQ
  exact W.vret hx hb hr (fun t ht hW => ⟨⟨(), rfl, trivial, by rw [ht]; exact hP, hD⟩, hS.F ht⟩) hS.2.2 dX5_clear_10
def mX5_add (t_size : Int32) (c_t_told : Nat → Int32) (p1 : Int32) : Option (Int32 × (Nat → Int32)) :=
  (if 8 ≤ t_size then some (t_size, c_t_told) else (mw_wr c_t_told 8 t_size p1).bind fun a2_told => some (t_size + 1, a2_told))
abbrev rmX5_add : Room := ({ frames := 0, cells := 0, slots := 0, locals := 0 } : Room)
set_option maxHeartbeats 4000000 in
set_option maxRecDepth 100000 in
theorem kX5_add (l : Launch) (D : va_G) (cA : ClassId) (t t_told : Nat) (sz : Nat) (t_size : Int32) (t_next : Int32) (c_t_told : Nat → Int32) (p1 : Int32) (o_t_size : Int32) (o_c_t_told : Nat → Int32) (hM : mX5_add t_size c_t_told p1 = some (o_t_size, o_c_t_told)) : Met l yX5_add wsX5_add rmX5_add (va_Pc [.ref t, .int p1] (fun U => U.heap.size = sz ∧ va_P D vwCl [(t, .inr (5, [.ref t_told, .int t_size, .int t_next])), (t_told, .inl (cA, 8, .inl c_t_told))] U.heap ∧ mw_ev D cA U ∧ va_D (fun _ => True) [(t, .inr (5, [.ref t_told, .int t_size, .int t_next])), (t_told, .inl (cA, 8, .inl c_t_told))])) (va_Qv (fun (_ : Unit) => True) (fun (_ : Unit) w_ => va_P D vwCl [(t, .inr (5, [.ref t_told, .int o_t_size, .int t_next])), (t_told, .inl (cA, 8, .inl o_c_t_told))] w_.heap ∧ va_D (va_A [(t, .inr (5, [.ref t_told, .int t_size, .int t_next])), (t_told, .inl (cA, 8, .inl c_t_told))] sz) [(t, .inr (5, [.ref t_told, .int o_t_size, .int t_next])), (t_told, .inl (cA, 8, .inl o_c_t_told))]) (va_A [(t, .inr (5, [.ref t_told, .int t_size, .int t_next])), (t_told, .inl (cA, 8, .inl c_t_told))] sz)) 0 0 (va_A [(t, .inr (5, [.ref t_told, .int t_size, .int t_next])), (t_told, .inl (cA, 8, .inl c_t_told))] sz) := by
  unfold mX5_add at hM
  refine Met.ofW (cc := cX5_add) (maxL := 2) (ret := none) (by decide) rfl ?_
  intro p e s m args below meth c s₁ B hml hv
  obtain ⟨rfl, hsz, hP, hE, hD0⟩ := hv
  have hx := B.exec
  have hb := B.bytes
  have hr := B.returns
  have hts := atoms_spec (ws := wsX5_add) B.pre
  have hown : s.vm.findClass RX5 = some m.cls := findClass_of_methodNamed B.named
  have hlocks := B.notSynchronized
  have hK := hE.1
  subst hsz
  have hD := hD0.self (sz := s.heap.size)
  generalize hAe : va_A [(t, .inr (5, [.ref t_told, .int t_size, .int t_next])), (t_told, .inl (cA, 8, .inl c_t_told))] s.heap.size = A at hD ⊢
  have hA : ∀ q : Nat, s.heap.size ≤ q → A q := fun q h => by rw [← hAe]; exact Or.inr h
  have hS : va_S A s.heap s.heap [] := va_S.rf
  have hl := lv_entry ([.ref t, .int p1]) (n := 2) (Nat.le_of_ble_eq_true rfl)
  rw [lg_entry_eq]
  generalize (lg_sl ([.ref t, .int p1]) ++ List.replicate (2 - (lg_sl ([.ref t, .int p1])).length) Slot.unset).toArray = ls at hl ⊢
  have hl : lv_has ls 2 [(0, .ref t), (1, .int p1)] := hl
  refine mw_q (P := fun Q => W p l e (headSpec wsX5_add rmX5_add).room s m (([.ref t, .int p1] : List Value).toArray) below meth c s.heap [] 0 0 Q (F0 m 0 ls [])) (fun Q hQ => ?_)
  refine lv_aload_n hx hb dX5_add_0 rfl (lv_at hl 0 rfl) ?_
  refine va_get (D := D) (ci := 5) (v := .int t_size) (C := RX5) (T := TX5) (N := 3) hx hb hts (fun _ h => List.mem_cons_of_mem _ (List.mem_append_right _ (h))) hown hK hP 0 rfl rfl 1 (by decide) (hts (.fieldLink RX5 15 "MossWall$Weeks" "size" "I") (List.mem_cons_of_mem _ (List.mem_append_left _ (List.mem_of_getElem? (i := 0) rfl)))) (fun _ h9 => h9) rfl dX5_add_1 ?_
  refine lv_bipush (v := 8) hx hb dX5_add_4 (by decide) ?_
  refine lv_icmp_ge (tgt := 29) hx hb dX5_add_6 (by decide) (fun q1 => ?_) (fun q1 => ?_)
  · replace hM := mw_t hM q1
    obtain ⟨rfl, rfl⟩ := mw_o2 hM
    subst hQ
    exact W.vret hx hb hr (fun t ht hW => ⟨⟨(), rfl, trivial, by rw [ht]; exact hP, hD⟩, hS.F ht⟩) hS.2.2 dX5_add_29
  · replace hM := mw_f hM q1
    refine lv_aload_n hx hb dX5_add_9 rfl (lv_at hl 0 rfl) ?_
    refine va_get (D := D) (ci := 5) (v := .ref t_told) (C := RX5) (T := TX5) (N := 3) hx hb hts (fun _ h => List.mem_cons_of_mem _ (List.mem_append_right _ (h))) hown hK hP 0 rfl rfl 0 (by decide) (hts (.fieldLink RX5 9 "MossWall$Weeks" "told" "[I") (List.mem_cons_of_mem _ (List.mem_append_left _ (List.mem_of_getElem? (i := 1) rfl)))) (fun _ h9 => h9) rfl dX5_add_10 ?_
    refine lv_aload_n hx hb dX5_add_13 rfl (lv_at hl 0 rfl) ?_
    refine va_get (D := D) (ci := 5) (v := .int t_size) (C := RX5) (T := TX5) (N := 3) hx hb hts (fun _ h => List.mem_cons_of_mem _ (List.mem_append_right _ (h))) hown hK hP 0 rfl rfl 1 (by decide) (hts (.fieldLink RX5 15 "MossWall$Weeks" "size" "I") (List.mem_cons_of_mem _ (List.mem_append_left _ (List.mem_of_getElem? (i := 0) rfl)))) (fun _ h9 => h9) rfl dX5_add_14 ?_
    refine lv_iload_n hx hb dX5_add_17 rfl (lv_at hl 1 rfl) ?_
    obtain ⟨a2_told, h2, hM⟩ := mw_d1 hM
    refine mw_iast hx hb hK hP hD hS 1 0 rfl rfl h2 dX5_add_18 (fun H locs hP hD hS => ?_)
    have hP : va_P D vwCl [(t, .inr (5, [.ref t_told, .int t_size, .int t_next])), (t_told, .inl (cA, 8, .inl a2_told))] H := hP
    have hD : va_D A [(t, .inr (5, [.ref t_told, .int t_size, .int t_next])), (t_told, .inl (cA, 8, .inl a2_told))] := hD
    refine lv_aload_n hx hb dX5_add_19 rfl (lv_at hl 0 rfl) ?_
    refine lv_dup hx hb dX5_add_20 rfl ?_
    refine va_get (D := D) (ci := 5) (v := .int t_size) (C := RX5) (T := TX5) (N := 3) hx hb hts (fun _ h => List.mem_cons_of_mem _ (List.mem_append_right _ (h))) hown hK hP 0 rfl rfl 1 (by decide) (hts (.fieldLink RX5 15 "MossWall$Weeks" "size" "I") (List.mem_cons_of_mem _ (List.mem_append_left _ (List.mem_of_getElem? (i := 0) rfl)))) (fun _ h9 => h9) rfl dX5_add_21 ?_
    refine lv_iconst (v := 1) hx hb dX5_add_24 (by decide) ?_
    refine lv_iadd hx hb dX5_add_25 ?_
    refine va_put (D := D) (ci := 5) (v := .int (t_size + 1)) (ty := .int) (C := RX5) (T := TX5) (N := 3) hx hb hts (fun _ h => List.mem_cons_of_mem _ (List.mem_append_right _ (h))) tyX5 tyX5_ok nmX5 hown hK hP hD hS 0 rfl rfl 1 (by decide) (hts (.fieldLink RX5 15 "MossWall$Weeks" "size" "I") (List.mem_cons_of_mem _ (List.mem_append_left _ (List.mem_of_getElem? (i := 0) rfl)))) (fun _ h9 => h9) rfl (by decide +kernel) rfl rfl (Nat.le_of_ble_eq_true rfl) dX5_add_26 (fun H locs hP hD hS => ?_)
    have hP : va_P D vwCl [(t, .inr (5, [.ref t_told, .int (t_size + 1), .int t_next])), (t_told, .inl (cA, 8, .inl a2_told))] H := hP
    have hD : va_D A [(t, .inr (5, [.ref t_told, .int (t_size + 1), .int t_next])), (t_told, .inl (cA, 8, .inl a2_told))] := hD
    obtain ⟨rfl, rfl⟩ := mw_o2 hM
    subst hQ
    exact W.vret hx hb hr (fun t ht hW => ⟨⟨(), rfl, trivial, by rw [ht]; exact hP, hD⟩, hS.F ht⟩) hS.2.2 dX5_add_29
def mX5_goOn (t_next : Int32) : Option Int32 :=
  some (t_next + 1)
abbrev rmX5_goOn : Room := ({ frames := 0, cells := 0, slots := 0, locals := 0 } : Room)
set_option maxHeartbeats 4000000 in
set_option maxRecDepth 100000 in
theorem kX5_goOn (l : Launch) (D : va_G) (cA : ClassId) (t t_told : Nat) (sz : Nat) (t_size : Int32) (t_next : Int32) (o_t_next : Int32) (hM : mX5_goOn t_next = some o_t_next) : Met l yX5_goOn wsX5_goOn rmX5_goOn (va_Pc [.ref t] (fun U => U.heap.size = sz ∧ va_P D vwCl [(t, .inr (5, [.ref t_told, .int t_size, .int t_next]))] U.heap ∧ mw_ev D cA U ∧ va_D (fun _ => True) [(t, .inr (5, [.ref t_told, .int t_size, .int t_next]))])) (va_Qv (fun (_ : Unit) => True) (fun (_ : Unit) w_ => va_P D vwCl [(t, .inr (5, [.ref t_told, .int t_size, .int o_t_next]))] w_.heap ∧ va_D (va_A [(t, .inr (5, [.ref t_told, .int t_size, .int t_next]))] sz) [(t, .inr (5, [.ref t_told, .int t_size, .int o_t_next]))]) (va_A [(t, .inr (5, [.ref t_told, .int t_size, .int t_next]))] sz)) 0 0 (va_A [(t, .inr (5, [.ref t_told, .int t_size, .int t_next]))] sz) := by
  unfold mX5_goOn at hM
  refine Met.ofW (cc := cX5_goOn) (maxL := 1) (ret := none) (by decide) rfl ?_
  intro p e s m args below meth c s₁ B hml hv
  obtain ⟨rfl, hsz, hP, hE, hD0⟩ := hv
  have hx := B.exec
  have hb := B.bytes
  have hr := B.returns
  have hts := atoms_spec (ws := wsX5_goOn) B.pre
  have hown : s.vm.findClass RX5 = some m.cls := findClass_of_methodNamed B.named
  have hlocks := B.notSynchronized
  have hK := hE.1
  subst hsz
  have hD := hD0.self (sz := s.heap.size)
  generalize hAe : va_A [(t, .inr (5, [.ref t_told, .int t_size, .int t_next]))] s.heap.size = A at hD ⊢
  have hA : ∀ q : Nat, s.heap.size ≤ q → A q := fun q h => by rw [← hAe]; exact Or.inr h
  have hS : va_S A s.heap s.heap [] := va_S.rf
  have hl := lv_entry ([.ref t]) (n := 1) (Nat.le_of_ble_eq_true rfl)
  rw [lg_entry_eq]
  generalize (lg_sl ([.ref t]) ++ List.replicate (1 - (lg_sl ([.ref t])).length) Slot.unset).toArray = ls at hl ⊢
  have hl : lv_has ls 1 [(0, .ref t)] := hl
  refine mw_q (P := fun Q => W p l e (headSpec wsX5_goOn rmX5_goOn).room s m (([.ref t] : List Value).toArray) below meth c s.heap [] 0 0 Q (F0 m 0 ls [])) (fun Q hQ => ?_)
  refine lv_aload_n hx hb dX5_goOn_0 rfl (lv_at hl 0 rfl) ?_
  refine lv_dup hx hb dX5_goOn_1 rfl ?_
  refine va_get (D := D) (ci := 5) (v := .int t_next) (C := RX5) (T := TX5) (N := 3) hx hb hts (fun _ h => List.mem_cons_of_mem _ (List.mem_append_right _ (h))) hown hK hP 0 rfl rfl 2 (by decide) (hts (.fieldLink RX5 19 "MossWall$Weeks" "next" "I") (List.mem_cons_of_mem _ (List.mem_append_left _ (List.mem_of_getElem? (i := 0) rfl)))) (fun _ h9 => h9) rfl dX5_goOn_2 ?_
  refine lv_iconst (v := 1) hx hb dX5_goOn_5 (by decide) ?_
  refine lv_iadd hx hb dX5_goOn_6 ?_
  refine va_put (D := D) (ci := 5) (v := .int (t_next + 1)) (ty := .int) (C := RX5) (T := TX5) (N := 3) hx hb hts (fun _ h => List.mem_cons_of_mem _ (List.mem_append_right _ (h))) tyX5 tyX5_ok nmX5 hown hK hP hD hS 0 rfl rfl 2 (by decide) (hts (.fieldLink RX5 19 "MossWall$Weeks" "next" "I") (List.mem_cons_of_mem _ (List.mem_append_left _ (List.mem_of_getElem? (i := 0) rfl)))) (fun _ h9 => h9) rfl (by decide +kernel) rfl rfl (Nat.le_of_ble_eq_true rfl) dX5_goOn_7 (fun H locs hP hD hS => ?_)
  have hP : va_P D vwCl [(t, .inr (5, [.ref t_told, .int t_size, .int (t_next + 1)]))] H := hP
  have hD : va_D A [(t, .inr (5, [.ref t_told, .int t_size, .int (t_next + 1)]))] := hD
  obtain rfl := mw_o1 hM
  subst hQ
  exact W.vret hx hb hr (fun t ht hW => ⟨⟨(), rfl, trivial, by rw [ht]; exact hP, hD⟩, hS.F ht⟩) hS.2.2 dX5_goOn_10
def mX5_copyFrom (t_size : Int32) (t_next : Int32) (c_t_told : Nat → Int32) (p1_size : Int32) (p1_next : Int32) (c_p1_told : Nat → Int32) : Option (Int32 × Int32 × (Nat → Int32)) :=
  some (p1_size, p1_next, va_cpy c_p1_told c_t_told 0 0 8)
abbrev rmX5_copyFrom : Room := ({ frames := 1, cells := 0, slots := 0, locals := 18 } : Room)
set_option maxHeartbeats 4000000 in
set_option maxRecDepth 100000 in
theorem kX5_copyFrom (l : Launch) (D : va_G) (cA : ClassId) (t p1 t_told p1_told : Nat) (sz : Nat) (t_size : Int32) (t_next : Int32) (c_t_told : Nat → Int32) (p1_size : Int32) (p1_next : Int32) (c_p1_told : Nat → Int32) (o_t_size : Int32) (o_t_next : Int32) (o_c_t_told : Nat → Int32) (hM : mX5_copyFrom t_size t_next c_t_told p1_size p1_next c_p1_told = some (o_t_size, o_t_next, o_c_t_told)) : Met l yX5_copyFrom wsX5_copyFrom rmX5_copyFrom (va_Pc [.ref t, .ref p1] (fun U => U.heap.size = sz ∧ va_P D vwCl [(t, .inr (5, [.ref t_told, .int t_size, .int t_next])), (t_told, .inl (cA, 8, .inl c_t_told)), (p1, .inr (5, [.ref p1_told, .int p1_size, .int p1_next])), (p1_told, .inl (cA, 8, .inl c_p1_told))] U.heap ∧ mw_ev D cA U ∧ va_D (fun _ => True) [(t, .inr (5, [.ref t_told, .int t_size, .int t_next])), (t_told, .inl (cA, 8, .inl c_t_told)), (p1, .inr (5, [.ref p1_told, .int p1_size, .int p1_next])), (p1_told, .inl (cA, 8, .inl c_p1_told))])) (va_Qv (fun (_ : Unit) => True) (fun (_ : Unit) w_ => va_P D vwCl [(t, .inr (5, [.ref t_told, .int o_t_size, .int o_t_next])), (t_told, .inl (cA, 8, .inl o_c_t_told)), (p1, .inr (5, [.ref p1_told, .int p1_size, .int p1_next])), (p1_told, .inl (cA, 8, .inl c_p1_told))] w_.heap ∧ va_D (va_A [(t, .inr (5, [.ref t_told, .int t_size, .int t_next])), (t_told, .inl (cA, 8, .inl c_t_told)), (p1, .inr (5, [.ref p1_told, .int p1_size, .int p1_next])), (p1_told, .inl (cA, 8, .inl c_p1_told))] sz) [(t, .inr (5, [.ref t_told, .int o_t_size, .int o_t_next])), (t_told, .inl (cA, 8, .inl o_c_t_told)), (p1, .inr (5, [.ref p1_told, .int p1_size, .int p1_next])), (p1_told, .inl (cA, 8, .inl c_p1_told))]) (va_A [(t, .inr (5, [.ref t_told, .int t_size, .int t_next])), (t_told, .inl (cA, 8, .inl c_t_told)), (p1, .inr (5, [.ref p1_told, .int p1_size, .int p1_next])), (p1_told, .inl (cA, 8, .inl c_p1_told))] sz)) 0 0 (va_A [(t, .inr (5, [.ref t_told, .int t_size, .int t_next])), (t_told, .inl (cA, 8, .inl c_t_told)), (p1, .inr (5, [.ref p1_told, .int p1_size, .int p1_next])), (p1_told, .inl (cA, 8, .inl c_p1_told))] sz) := by
  unfold mX5_copyFrom at hM
  refine Met.ofW (cc := cX5_copyFrom) (maxL := 2) (ret := none) (by decide) rfl ?_
  intro p e s m args below meth c s₁ B hml hv
  obtain ⟨rfl, hsz, hP, hE, hD0⟩ := hv
  have hx := B.exec
  have hb := B.bytes
  have hr := B.returns
  have hts := atoms_spec (ws := wsX5_copyFrom) B.pre
  have hown : s.vm.findClass RX5 = some m.cls := findClass_of_methodNamed B.named
  have hlocks := B.notSynchronized
  have hK := hE.1
  subst hsz
  have hD := hD0.self (sz := s.heap.size)
  generalize hAe : va_A [(t, .inr (5, [.ref t_told, .int t_size, .int t_next])), (t_told, .inl (cA, 8, .inl c_t_told)), (p1, .inr (5, [.ref p1_told, .int p1_size, .int p1_next])), (p1_told, .inl (cA, 8, .inl c_p1_told))] s.heap.size = A at hD ⊢
  have hA : ∀ q : Nat, s.heap.size ≤ q → A q := fun q h => by rw [← hAe]; exact Or.inr h
  have hS : va_S A s.heap s.heap [] := va_S.rf
  have hl := lv_entry ([.ref t, .ref p1]) (n := 2) (Nat.le_of_ble_eq_true rfl)
  rw [lg_entry_eq]
  generalize (lg_sl ([.ref t, .ref p1]) ++ List.replicate (2 - (lg_sl ([.ref t, .ref p1])).length) Slot.unset).toArray = ls at hl ⊢
  have hl : lv_has ls 2 [(0, .ref t), (1, .ref p1)] := hl
  refine mw_q (P := fun Q => W p l e (headSpec wsX5_copyFrom rmX5_copyFrom).room s m (([.ref t, .ref p1] : List Value).toArray) below meth c s.heap [] 0 0 Q (F0 m 0 ls [])) (fun Q hQ => ?_)
  refine lv_aload_n hx hb dX5_copyFrom_0 rfl (lv_at hl 1 rfl) ?_
  refine lv_ifnonnull (tgt := 5) hx hb dX5_copyFrom_1 (by decide) ?_
  refine lv_aload_n hx hb dX5_copyFrom_5 rfl (lv_at hl 0 rfl) ?_
  refine lv_aload_n hx hb dX5_copyFrom_6 rfl (lv_at hl 1 rfl) ?_
  refine va_get (D := D) (ci := 5) (v := .int p1_size) (C := RX5) (T := TX5) (N := 3) hx hb hts (fun _ h => List.mem_cons_of_mem _ (List.mem_append_right _ (h))) hown hK hP 2 rfl rfl 1 (by decide) (hts (.fieldLink RX5 15 "MossWall$Weeks" "size" "I") (List.mem_cons_of_mem _ (List.mem_append_left _ (List.mem_of_getElem? (i := 0) rfl)))) (fun _ h9 => h9) rfl dX5_copyFrom_7 ?_
  refine va_put (D := D) (ci := 5) (v := .int p1_size) (ty := .int) (C := RX5) (T := TX5) (N := 3) hx hb hts (fun _ h => List.mem_cons_of_mem _ (List.mem_append_right _ (h))) tyX5 tyX5_ok nmX5 hown hK hP hD hS 0 rfl rfl 1 (by decide) (hts (.fieldLink RX5 15 "MossWall$Weeks" "size" "I") (List.mem_cons_of_mem _ (List.mem_append_left _ (List.mem_of_getElem? (i := 0) rfl)))) (fun _ h9 => h9) rfl (by decide +kernel) rfl rfl (Nat.le_of_ble_eq_true rfl) dX5_copyFrom_10 (fun H locs hP hD hS => ?_)
  have hP : va_P D vwCl [(t, .inr (5, [.ref t_told, .int p1_size, .int t_next])), (t_told, .inl (cA, 8, .inl c_t_told)), (p1, .inr (5, [.ref p1_told, .int p1_size, .int p1_next])), (p1_told, .inl (cA, 8, .inl c_p1_told))] H := hP
  have hD : va_D A [(t, .inr (5, [.ref t_told, .int p1_size, .int t_next])), (t_told, .inl (cA, 8, .inl c_t_told)), (p1, .inr (5, [.ref p1_told, .int p1_size, .int p1_next])), (p1_told, .inl (cA, 8, .inl c_p1_told))] := hD
  refine lv_aload_n hx hb dX5_copyFrom_13 rfl (lv_at hl 0 rfl) ?_
  refine lv_aload_n hx hb dX5_copyFrom_14 rfl (lv_at hl 1 rfl) ?_
  refine va_get (D := D) (ci := 5) (v := .int p1_next) (C := RX5) (T := TX5) (N := 3) hx hb hts (fun _ h => List.mem_cons_of_mem _ (List.mem_append_right _ (h))) hown hK hP 2 rfl rfl 2 (by decide) (hts (.fieldLink RX5 19 "MossWall$Weeks" "next" "I") (List.mem_cons_of_mem _ (List.mem_append_left _ (List.mem_of_getElem? (i := 1) rfl)))) (fun _ h9 => h9) rfl dX5_copyFrom_15 ?_
  refine va_put (D := D) (ci := 5) (v := .int p1_next) (ty := .int) (C := RX5) (T := TX5) (N := 3) hx hb hts (fun _ h => List.mem_cons_of_mem _ (List.mem_append_right _ (h))) tyX5 tyX5_ok nmX5 hown hK hP hD hS 0 rfl rfl 2 (by decide) (hts (.fieldLink RX5 19 "MossWall$Weeks" "next" "I") (List.mem_cons_of_mem _ (List.mem_append_left _ (List.mem_of_getElem? (i := 1) rfl)))) (fun _ h9 => h9) rfl (by decide +kernel) rfl rfl (Nat.le_of_ble_eq_true rfl) dX5_copyFrom_18 (fun H locs hP hD hS => ?_)
  have hP : va_P D vwCl [(t, .inr (5, [.ref t_told, .int p1_size, .int p1_next])), (t_told, .inl (cA, 8, .inl c_t_told)), (p1, .inr (5, [.ref p1_told, .int p1_size, .int p1_next])), (p1_told, .inl (cA, 8, .inl c_p1_told))] H := hP
  have hD : va_D A [(t, .inr (5, [.ref t_told, .int p1_size, .int p1_next])), (t_told, .inl (cA, 8, .inl c_t_told)), (p1, .inr (5, [.ref p1_told, .int p1_size, .int p1_next])), (p1_told, .inl (cA, 8, .inl c_p1_told))] := hD
  refine lv_aload_n hx hb dX5_copyFrom_21 rfl (lv_at hl 1 rfl) ?_
  refine va_get (D := D) (ci := 5) (v := .ref p1_told) (C := RX5) (T := TX5) (N := 3) hx hb hts (fun _ h => List.mem_cons_of_mem _ (List.mem_append_right _ (h))) hown hK hP 2 rfl rfl 0 (by decide) (hts (.fieldLink RX5 9 "MossWall$Weeks" "told" "[I") (List.mem_cons_of_mem _ (List.mem_append_left _ (List.mem_of_getElem? (i := 2) rfl)))) (fun _ h9 => h9) rfl dX5_copyFrom_22 ?_
  refine lv_iconst (v := 0) hx hb dX5_copyFrom_25 (by decide) ?_
  refine lv_aload_n hx hb dX5_copyFrom_26 rfl (lv_at hl 0 rfl) ?_
  refine va_get (D := D) (ci := 5) (v := .ref t_told) (C := RX5) (T := TX5) (N := 3) hx hb hts (fun _ h => List.mem_cons_of_mem _ (List.mem_append_right _ (h))) hown hK hP 0 rfl rfl 0 (by decide) (hts (.fieldLink RX5 9 "MossWall$Weeks" "told" "[I") (List.mem_cons_of_mem _ (List.mem_append_left _ (List.mem_of_getElem? (i := 2) rfl)))) (fun _ h9 => h9) rfl dX5_copyFrom_27 ?_
  refine lv_iconst (v := 0) hx hb dX5_copyFrom_30 (by decide) ?_
  refine lv_bipush (v := 8) hx hb dX5_copyFrom_31 (by decide) ?_
  refine va_copyi (ty := .int) hx hb (hml.trans hl.1.symm) hown (hts (.methodLink RX5 22 arraycopyName) (List.mem_cons_of_mem _ (List.mem_append_left _ (List.mem_of_getElem? (i := 3) rfl)))) (hts (.native arraycopyName) (List.mem_cons_of_mem _ (List.mem_append_left _ (List.mem_of_getElem? (i := 4) rfl)))) (hts (.static arraycopyName) (List.mem_cons_of_mem _ (List.mem_append_left _ (List.mem_of_getElem? (i := 5) rfl)))) (hts (.initialized "java/lang/System") (List.mem_cons_of_mem _ (List.mem_append_left _ (List.mem_of_getElem? (i := 6) rfl)))) hK hP hD hS 3 1 0 0 rfl rfl rfl rfl rfl (by decide) (by decide) (by decide) (by decide) (by decide) (fun _ _ => rfl) (Nat.le_of_ble_eq_true rfl) (Nat.le_of_ble_eq_true rfl) dX5_copyFrom_33 (fun H locs hP hD hS => ?_)
  have hP : va_P D vwCl [(t, .inr (5, [.ref t_told, .int p1_size, .int p1_next])), (t_told, .inl (cA, 8, .inl (va_cpy c_p1_told c_t_told 0 0 8))), (p1, .inr (5, [.ref p1_told, .int p1_size, .int p1_next])), (p1_told, .inl (cA, 8, .inl c_p1_told))] H := hP
  have hD : va_D A [(t, .inr (5, [.ref t_told, .int p1_size, .int p1_next])), (t_told, .inl (cA, 8, .inl (va_cpy c_p1_told c_t_told 0 0 8))), (p1, .inr (5, [.ref p1_told, .int p1_size, .int p1_next])), (p1_told, .inl (cA, 8, .inl c_p1_told))] := hD
  obtain ⟨rfl, rfl, rfl⟩ := mw_o3 hM
  subst hQ
  exact W.vret hx hb hr (fun t ht hW => ⟨⟨(), rfl, trivial, by rw [ht]; exact hP, hD⟩, hS.F ht⟩) hS.2.2 dX5_copyFrom_36
