def mX0_size (t_size : Int32) : Option Int32 :=
  some t_size
abbrev rmX0_size : Room := ({ frames := 0, cells := 0, slots := 0, locals := 0 } : Room)
set_option maxHeartbeats 4000000 in
set_option maxRecDepth 100000 in
theorem kX0_size (l : Launch) (D : va_G) (cA : ClassId) (t t_kinds t_deeps t_leans t_moss : Nat) (t_size : Int32) (r : Int32) (hM : mX0_size t_size = some r) : Met l yX0_size wsX0_size rmX0_size (va_Pc [.ref t] (fun U => va_P D vwCl [(t, .inr (0, [.ref t_kinds, .ref t_deeps, .ref t_leans, .ref t_moss, .int t_size]))] U.heap ∧ mw_ev D cA U)) (vp_Si (fun v => v = r)) 0 0 (fun _ => False) := by
  unfold mX0_size at hM
  refine Met.ofW (cc := cX0_size) (maxL := 1) (ret := (some .int)) (by decide) rfl ?_
  intro p e s m args below meth c s₁ B hml hv
  obtain ⟨rfl, hP, hE⟩ := hv
  have hx := B.exec
  have hb := B.bytes
  have hr := B.returns
  have hts := atoms_spec (ws := wsX0_size) B.pre
  have hown : s.vm.findClass RX0 = some m.cls := findClass_of_methodNamed B.named
  have hlocks := B.notSynchronized
  have hK := hE.1
  have hl := lv_entry ([.ref t]) (n := 1) (Nat.le_of_ble_eq_true rfl)
  rw [lg_entry_eq]
  generalize (lg_sl ([.ref t]) ++ List.replicate (1 - (lg_sl ([.ref t])).length) Slot.unset).toArray = ls at hl ⊢
  have hl : lv_has ls 1 [(0, .ref t)] := hl
  refine mw_q (P := fun Q => W p l e (headSpec wsX0_size rmX0_size).room s m (([.ref t] : List Value).toArray) below meth c s.heap [] 0 0 Q (F0 m 0 ls [])) (fun Q hQ => ?_)
  refine lv_aload_n hx hb dX0_size_0 rfl (lv_at hl 0 rfl) ?_
  refine va_get (D := D) (ci := 0) (v := .int t_size) (C := RX0) (T := TX0) (N := 5) hx hb hts (fun _ h => List.mem_cons_of_mem _ (List.mem_append_right _ (h))) hown hK hP 0 rfl rfl 4 (by decide) (hts (.fieldLink RX0 24 "MossWall$Clauses" "size" "I") (List.mem_cons_of_mem _ (List.mem_append_left _ (List.mem_of_getElem? (i := 0) rfl)))) (fun _ h9 => h9) rfl dX0_size_1 ?_
  obtain rfl := mw_o1 hM
  subst hQ
  exact W.iret hx hb hr (fun t ht hW => ⟨_, rfl, rfl, ht⟩) (fun q h => absurd h List.not_mem_nil) dX0_size_4
def mX0_has (t_size : Int32) (p1 : Int32) : Option Int32 :=
  (if p1 < 0 then some 0 else (if t_size ≤ p1 then some 0 else some 1))
abbrev rmX0_has : Room := ({ frames := 0, cells := 0, slots := 0, locals := 0 } : Room)
set_option maxHeartbeats 4000000 in
set_option maxRecDepth 100000 in
theorem kX0_has (l : Launch) (D : va_G) (cA : ClassId) (t t_kinds t_deeps t_leans t_moss : Nat) (t_size : Int32) (p1 : Int32) (r : Int32) (hM : mX0_has t_size p1 = some r) : Met l yX0_has wsX0_has rmX0_has (va_Pc [.ref t, .int p1] (fun U => va_P D vwCl [(t, .inr (0, [.ref t_kinds, .ref t_deeps, .ref t_leans, .ref t_moss, .int t_size]))] U.heap ∧ mw_ev D cA U)) (vp_Si (fun v => v = r ∧ narrow .boolean (.int v) = .int v)) 0 0 (fun _ => False) := by
  unfold mX0_has at hM
  refine Met.ofW (cc := cX0_has) (maxL := 2) (ret := (some .boolean)) (by decide) rfl ?_
  intro p e s m args below meth c s₁ B hml hv
  obtain ⟨rfl, hP, hE⟩ := hv
  have hx := B.exec
  have hb := B.bytes
  have hr := B.returns
  have hts := atoms_spec (ws := wsX0_has) B.pre
  have hown : s.vm.findClass RX0 = some m.cls := findClass_of_methodNamed B.named
  have hlocks := B.notSynchronized
  have hK := hE.1
  have hl := lv_entry ([.ref t, .int p1]) (n := 2) (Nat.le_of_ble_eq_true rfl)
  rw [lg_entry_eq]
  generalize (lg_sl ([.ref t, .int p1]) ++ List.replicate (2 - (lg_sl ([.ref t, .int p1])).length) Slot.unset).toArray = ls at hl ⊢
  have hl : lv_has ls 2 [(0, .ref t), (1, .int p1)] := hl
  refine mw_q (P := fun Q => W p l e (headSpec wsX0_has rmX0_has).room s m (([.ref t, .int p1] : List Value).toArray) below meth c s.heap [] 0 0 Q (F0 m 0 ls [])) (fun Q hQ => ?_)
  refine lv_iload_n hx hb dX0_has_0 rfl (lv_at hl 1 rfl) ?_
  refine lv_if_lt (tgt := 16) hx hb dX0_has_1 (by decide) (fun q1 => ?_) (fun q1 => ?_)
  · replace hM := mw_t hM q1
    refine lv_iconst (v := 0) hx hb dX0_has_16 (by decide) ?_
    obtain rfl := mw_o1 hM
    subst hQ
    exact W.zret hx hb hr rfl (fun t ht hW => ⟨_, rfl, ⟨rfl, rfl⟩, ht⟩) (fun q h => absurd h List.not_mem_nil) dX0_has_17
  · replace hM := mw_f hM q1
    refine lv_iload_n hx hb dX0_has_4 rfl (lv_at hl 1 rfl) ?_
    refine lv_aload_n hx hb dX0_has_5 rfl (lv_at hl 0 rfl) ?_
    refine va_get (D := D) (ci := 0) (v := .int t_size) (C := RX0) (T := TX0) (N := 5) hx hb hts (fun _ h => List.mem_cons_of_mem _ (List.mem_append_right _ (h))) hown hK hP 0 rfl rfl 4 (by decide) (hts (.fieldLink RX0 24 "MossWall$Clauses" "size" "I") (List.mem_cons_of_mem _ (List.mem_append_left _ (List.mem_of_getElem? (i := 0) rfl)))) (fun _ h9 => h9) rfl dX0_has_6 ?_
    refine lv_icmp_ge (tgt := 16) hx hb dX0_has_9 (by decide) (fun q2 => ?_) (fun q2 => ?_)
    · replace hM := mw_t hM q2
      refine lv_iconst (v := 0) hx hb dX0_has_16 (by decide) ?_
      obtain rfl := mw_o1 hM
      subst hQ
      exact W.zret hx hb hr rfl (fun t ht hW => ⟨_, rfl, ⟨rfl, rfl⟩, ht⟩) (fun q h => absurd h List.not_mem_nil) dX0_has_17
    · replace hM := mw_f hM q2
      refine lv_iconst (v := 1) hx hb dX0_has_12 (by decide) ?_
      refine lv_goto (tgt := 17) hx hb dX0_has_13 (by decide) ?_
      obtain rfl := mw_o1 hM
      subst hQ
      exact W.zret hx hb hr rfl (fun t ht hW => ⟨_, rfl, ⟨rfl, rfl⟩, ht⟩) (fun q h => absurd h List.not_mem_nil) dX0_has_17
def mX0_kindOf (t_size : Int32) (c_t_kinds : Nat → Int32) (p1 : Int32) : Option Int32 :=
  (mX0_has t_size p1).bind fun r1 => (if r1 = 0 then some ((-1)) else (mw_rd c_t_kinds 6 p1).bind fun e3 => some e3)
abbrev rmX0_kindOf : Room := ({ frames := 1, cells := 0, slots := 0, locals := 21 } : Room)
set_option maxHeartbeats 4000000 in
set_option maxRecDepth 100000 in
theorem kX0_kindOf (l : Launch) (D : va_G) (cA : ClassId) (t t_kinds t_deeps t_leans t_moss : Nat) (t_size : Int32) (c_t_kinds : Nat → Int32) (p1 : Int32) (r : Int32) (hM : mX0_kindOf t_size c_t_kinds p1 = some r) : Met l yX0_kindOf wsX0_kindOf rmX0_kindOf (va_Pc [.ref t, .int p1] (fun U => va_P D vwCl [(t, .inr (0, [.ref t_kinds, .ref t_deeps, .ref t_leans, .ref t_moss, .int t_size])), (t_kinds, .inl (cA, 6, .inl c_t_kinds))] U.heap ∧ mw_ev D cA U)) (vp_Si (fun v => v = r)) 0 0 (fun _ => False) := by
  unfold mX0_kindOf at hM
  refine Met.ofW (cc := cX0_kindOf) (maxL := 2) (ret := (some .int)) (by decide) rfl ?_
  intro p e s m args below meth c s₁ B hml hv
  obtain ⟨rfl, hP, hE⟩ := hv
  have hx := B.exec
  have hb := B.bytes
  have hr := B.returns
  have hts := atoms_spec (ws := wsX0_kindOf) B.pre
  have hown : s.vm.findClass RX0 = some m.cls := findClass_of_methodNamed B.named
  have hlocks := B.notSynchronized
  have hK := hE.1
  have hl := lv_entry ([.ref t, .int p1]) (n := 2) (Nat.le_of_ble_eq_true rfl)
  rw [lg_entry_eq]
  generalize (lg_sl ([.ref t, .int p1]) ++ List.replicate (2 - (lg_sl ([.ref t, .int p1])).length) Slot.unset).toArray = ls at hl ⊢
  have hl : lv_has ls 2 [(0, .ref t), (1, .int p1)] := hl
  refine mw_q (P := fun Q => W p l e (headSpec wsX0_kindOf rmX0_kindOf).room s m (([.ref t, .int p1] : List Value).toArray) below meth c s.heap [] 0 0 Q (F0 m 0 ls [])) (fun Q hQ => ?_)
  refine lv_aload_n hx hb dX0_kindOf_0 rfl (lv_at hl 0 rfl) ?_
  refine lv_iload_n hx hb dX0_kindOf_1 rfl (lv_at hl 1 rfl) ?_
  obtain ⟨r1, h1, hM⟩ := mw_d1 hM
  have hPc := hP.sub (ws' := [(t, .inr (0, [.ref t_kinds, .ref t_deeps, .ref t_leans, .ref t_moss, .int t_size]))]) [0] rfl
  refine vp_callSi (va_Run.run (va_runV (As := [.int p1]) (rest := []) ⟨hx, hb, hml, hown, hts⟩ (kX0_has l D cA t t_kinds t_deeps t_leans t_moss t_size p1 r1 h1) (cwV 1 hts gX0_kindOf_X0_has rfl rfl rfl (by decide +kernel) ⟨Nat.le_of_ble_eq_true rfl, Nat.le_of_ble_eq_true rfl⟩) ⟨mw_fbR, va_recv hK hP (ci := 0) (q0 := 0) rfl rfl, mw_puR hPc hE⟩ rfl rfl hl.1 rfl (lv_room (Nat.le_of_ble_eq_true rfl)) dX0_kindOf_2 ⟨Nat.zero_le _, Nat.zero_le _⟩)) (fun v_ e_ => ?_)
  obtain ⟨e_, b1⟩ := e_
  subst v_
  refine lv_if_eq (tgt := 17) hx hb dX0_kindOf_5 (by decide) (fun q2 => ?_) (fun q2 => ?_)
  · replace hM := mw_t hM q2
    refine lv_iconst (v := (-1)) hx hb dX0_kindOf_17 (by decide) ?_
    obtain rfl := mw_o1 hM
    subst hQ
    exact W.iret hx hb hr (fun t ht hW => ⟨_, rfl, rfl, ht⟩) (fun q h => absurd h List.not_mem_nil) dX0_kindOf_18
  · replace hM := mw_f hM q2
    refine lv_aload_n hx hb dX0_kindOf_8 rfl (lv_at hl 0 rfl) ?_
    refine va_get (D := D) (ci := 0) (v := .ref t_kinds) (C := RX0) (T := TX0) (N := 5) hx hb hts (fun _ h => List.mem_cons_of_mem _ (List.mem_append_right _ (h))) hown hK hP 0 rfl rfl 0 (by decide) (hts (.fieldLink RX0 9 "MossWall$Clauses" "kinds" "[I") (List.mem_cons_of_mem _ (List.mem_append_left _ (List.mem_of_getElem? (i := 0) rfl)))) (fun _ h9 => h9) rfl dX0_kindOf_9 ?_
    refine lv_iload_n hx hb dX0_kindOf_12 rfl (lv_at hl 1 rfl) ?_
    obtain ⟨e3, h3, hM⟩ := mw_d1 hM
    refine mw_iald hx hb hK hP 1 0 rfl rfl h3 dX0_kindOf_13 ?_
    refine lv_goto (tgt := 18) hx hb dX0_kindOf_14 (by decide) ?_
    obtain rfl := mw_o1 hM
    subst hQ
    exact W.iret hx hb hr (fun t ht hW => ⟨_, rfl, rfl, ht⟩) (fun q h => absurd h List.not_mem_nil) dX0_kindOf_18
def mX0_deepOf (t_size : Int32) (c_t_deeps : Nat → Int32) (p1 : Int32) : Option Int32 :=
  (mX0_has t_size p1).bind fun r1 => (if r1 = 0 then some 0 else (mw_rd c_t_deeps 6 p1).bind fun e3 => some e3)
abbrev rmX0_deepOf : Room := ({ frames := 1, cells := 0, slots := 0, locals := 21 } : Room)
set_option maxHeartbeats 4000000 in
set_option maxRecDepth 100000 in
theorem kX0_deepOf (l : Launch) (D : va_G) (cA : ClassId) (t t_kinds t_deeps t_leans t_moss : Nat) (t_size : Int32) (c_t_deeps : Nat → Int32) (p1 : Int32) (r : Int32) (hM : mX0_deepOf t_size c_t_deeps p1 = some r) : Met l yX0_deepOf wsX0_deepOf rmX0_deepOf (va_Pc [.ref t, .int p1] (fun U => va_P D vwCl [(t, .inr (0, [.ref t_kinds, .ref t_deeps, .ref t_leans, .ref t_moss, .int t_size])), (t_deeps, .inl (cA, 6, .inl c_t_deeps))] U.heap ∧ mw_ev D cA U)) (vp_Si (fun v => v = r)) 0 0 (fun _ => False) := by
  unfold mX0_deepOf at hM
  refine Met.ofW (cc := cX0_deepOf) (maxL := 2) (ret := (some .int)) (by decide) rfl ?_
  intro p e s m args below meth c s₁ B hml hv
  obtain ⟨rfl, hP, hE⟩ := hv
  have hx := B.exec
  have hb := B.bytes
  have hr := B.returns
  have hts := atoms_spec (ws := wsX0_deepOf) B.pre
  have hown : s.vm.findClass RX0 = some m.cls := findClass_of_methodNamed B.named
  have hlocks := B.notSynchronized
  have hK := hE.1
  have hl := lv_entry ([.ref t, .int p1]) (n := 2) (Nat.le_of_ble_eq_true rfl)
  rw [lg_entry_eq]
  generalize (lg_sl ([.ref t, .int p1]) ++ List.replicate (2 - (lg_sl ([.ref t, .int p1])).length) Slot.unset).toArray = ls at hl ⊢
  have hl : lv_has ls 2 [(0, .ref t), (1, .int p1)] := hl
  refine mw_q (P := fun Q => W p l e (headSpec wsX0_deepOf rmX0_deepOf).room s m (([.ref t, .int p1] : List Value).toArray) below meth c s.heap [] 0 0 Q (F0 m 0 ls [])) (fun Q hQ => ?_)
  refine lv_aload_n hx hb dX0_deepOf_0 rfl (lv_at hl 0 rfl) ?_
  refine lv_iload_n hx hb dX0_deepOf_1 rfl (lv_at hl 1 rfl) ?_
  obtain ⟨r1, h1, hM⟩ := mw_d1 hM
  have hPc := hP.sub (ws' := [(t, .inr (0, [.ref t_kinds, .ref t_deeps, .ref t_leans, .ref t_moss, .int t_size]))]) [0] rfl
  refine vp_callSi (va_Run.run (va_runV (As := [.int p1]) (rest := []) ⟨hx, hb, hml, hown, hts⟩ (kX0_has l D cA t t_kinds t_deeps t_leans t_moss t_size p1 r1 h1) (cwV 1 hts gX0_deepOf_X0_has rfl rfl rfl (by decide +kernel) ⟨Nat.le_of_ble_eq_true rfl, Nat.le_of_ble_eq_true rfl⟩) ⟨mw_fbR, va_recv hK hP (ci := 0) (q0 := 0) rfl rfl, mw_puR hPc hE⟩ rfl rfl hl.1 rfl (lv_room (Nat.le_of_ble_eq_true rfl)) dX0_deepOf_2 ⟨Nat.zero_le _, Nat.zero_le _⟩)) (fun v_ e_ => ?_)
  obtain ⟨e_, b1⟩ := e_
  subst v_
  refine lv_if_eq (tgt := 17) hx hb dX0_deepOf_5 (by decide) (fun q2 => ?_) (fun q2 => ?_)
  · replace hM := mw_t hM q2
    refine lv_iconst (v := 0) hx hb dX0_deepOf_17 (by decide) ?_
    obtain rfl := mw_o1 hM
    subst hQ
    exact W.iret hx hb hr (fun t ht hW => ⟨_, rfl, rfl, ht⟩) (fun q h => absurd h List.not_mem_nil) dX0_deepOf_18
  · replace hM := mw_f hM q2
    refine lv_aload_n hx hb dX0_deepOf_8 rfl (lv_at hl 0 rfl) ?_
    refine va_get (D := D) (ci := 0) (v := .ref t_deeps) (C := RX0) (T := TX0) (N := 5) hx hb hts (fun _ h => List.mem_cons_of_mem _ (List.mem_append_right _ (h))) hown hK hP 0 rfl rfl 1 (by decide) (hts (.fieldLink RX0 15 "MossWall$Clauses" "deeps" "[I") (List.mem_cons_of_mem _ (List.mem_append_left _ (List.mem_of_getElem? (i := 0) rfl)))) (fun _ h9 => h9) rfl dX0_deepOf_9 ?_
    refine lv_iload_n hx hb dX0_deepOf_12 rfl (lv_at hl 1 rfl) ?_
    obtain ⟨e3, h3, hM⟩ := mw_d1 hM
    refine mw_iald hx hb hK hP 1 0 rfl rfl h3 dX0_deepOf_13 ?_
    refine lv_goto (tgt := 18) hx hb dX0_deepOf_14 (by decide) ?_
    obtain rfl := mw_o1 hM
    subst hQ
    exact W.iret hx hb hr (fun t ht hW => ⟨_, rfl, rfl, ht⟩) (fun q h => absurd h List.not_mem_nil) dX0_deepOf_18
def mX0_leanOf (t_size : Int32) (c_t_leans : Nat → Int32) (p1 : Int32) : Option Int32 :=
  (mX0_has t_size p1).bind fun r1 => (if r1 = 0 then some ((-1)) else (mw_rd c_t_leans 6 p1).bind fun e3 => some e3)
abbrev rmX0_leanOf : Room := ({ frames := 1, cells := 0, slots := 0, locals := 21 } : Room)
set_option maxHeartbeats 4000000 in
set_option maxRecDepth 100000 in
theorem kX0_leanOf (l : Launch) (D : va_G) (cA : ClassId) (t t_kinds t_deeps t_leans t_moss : Nat) (t_size : Int32) (c_t_leans : Nat → Int32) (p1 : Int32) (r : Int32) (hM : mX0_leanOf t_size c_t_leans p1 = some r) : Met l yX0_leanOf wsX0_leanOf rmX0_leanOf (va_Pc [.ref t, .int p1] (fun U => va_P D vwCl [(t, .inr (0, [.ref t_kinds, .ref t_deeps, .ref t_leans, .ref t_moss, .int t_size])), (t_leans, .inl (cA, 6, .inl c_t_leans))] U.heap ∧ mw_ev D cA U)) (vp_Si (fun v => v = r)) 0 0 (fun _ => False) := by
  unfold mX0_leanOf at hM
  refine Met.ofW (cc := cX0_leanOf) (maxL := 2) (ret := (some .int)) (by decide) rfl ?_
  intro p e s m args below meth c s₁ B hml hv
  obtain ⟨rfl, hP, hE⟩ := hv
  have hx := B.exec
  have hb := B.bytes
  have hr := B.returns
  have hts := atoms_spec (ws := wsX0_leanOf) B.pre
  have hown : s.vm.findClass RX0 = some m.cls := findClass_of_methodNamed B.named
  have hlocks := B.notSynchronized
  have hK := hE.1
  have hl := lv_entry ([.ref t, .int p1]) (n := 2) (Nat.le_of_ble_eq_true rfl)
  rw [lg_entry_eq]
  generalize (lg_sl ([.ref t, .int p1]) ++ List.replicate (2 - (lg_sl ([.ref t, .int p1])).length) Slot.unset).toArray = ls at hl ⊢
  have hl : lv_has ls 2 [(0, .ref t), (1, .int p1)] := hl
  refine mw_q (P := fun Q => W p l e (headSpec wsX0_leanOf rmX0_leanOf).room s m (([.ref t, .int p1] : List Value).toArray) below meth c s.heap [] 0 0 Q (F0 m 0 ls [])) (fun Q hQ => ?_)
  refine lv_aload_n hx hb dX0_leanOf_0 rfl (lv_at hl 0 rfl) ?_
  refine lv_iload_n hx hb dX0_leanOf_1 rfl (lv_at hl 1 rfl) ?_
  obtain ⟨r1, h1, hM⟩ := mw_d1 hM
  have hPc := hP.sub (ws' := [(t, .inr (0, [.ref t_kinds, .ref t_deeps, .ref t_leans, .ref t_moss, .int t_size]))]) [0] rfl
  refine vp_callSi (va_Run.run (va_runV (As := [.int p1]) (rest := []) ⟨hx, hb, hml, hown, hts⟩ (kX0_has l D cA t t_kinds t_deeps t_leans t_moss t_size p1 r1 h1) (cwV 1 hts gX0_leanOf_X0_has rfl rfl rfl (by decide +kernel) ⟨Nat.le_of_ble_eq_true rfl, Nat.le_of_ble_eq_true rfl⟩) ⟨mw_fbR, va_recv hK hP (ci := 0) (q0 := 0) rfl rfl, mw_puR hPc hE⟩ rfl rfl hl.1 rfl (lv_room (Nat.le_of_ble_eq_true rfl)) dX0_leanOf_2 ⟨Nat.zero_le _, Nat.zero_le _⟩)) (fun v_ e_ => ?_)
  obtain ⟨e_, b1⟩ := e_
  subst v_
  refine lv_if_eq (tgt := 17) hx hb dX0_leanOf_5 (by decide) (fun q2 => ?_) (fun q2 => ?_)
  · replace hM := mw_t hM q2
    refine lv_iconst (v := (-1)) hx hb dX0_leanOf_17 (by decide) ?_
    obtain rfl := mw_o1 hM
    subst hQ
    exact W.iret hx hb hr (fun t ht hW => ⟨_, rfl, rfl, ht⟩) (fun q h => absurd h List.not_mem_nil) dX0_leanOf_18
  · replace hM := mw_f hM q2
    refine lv_aload_n hx hb dX0_leanOf_8 rfl (lv_at hl 0 rfl) ?_
    refine va_get (D := D) (ci := 0) (v := .ref t_leans) (C := RX0) (T := TX0) (N := 5) hx hb hts (fun _ h => List.mem_cons_of_mem _ (List.mem_append_right _ (h))) hown hK hP 0 rfl rfl 2 (by decide) (hts (.fieldLink RX0 18 "MossWall$Clauses" "leans" "[I") (List.mem_cons_of_mem _ (List.mem_append_left _ (List.mem_of_getElem? (i := 0) rfl)))) (fun _ h9 => h9) rfl dX0_leanOf_9 ?_
    refine lv_iload_n hx hb dX0_leanOf_12 rfl (lv_at hl 1 rfl) ?_
    obtain ⟨e3, h3, hM⟩ := mw_d1 hM
    refine mw_iald hx hb hK hP 1 0 rfl rfl h3 dX0_leanOf_13 ?_
    refine lv_goto (tgt := 18) hx hb dX0_leanOf_14 (by decide) ?_
    obtain rfl := mw_o1 hM
    subst hQ
    exact W.iret hx hb hr (fun t ht hW => ⟨_, rfl, rfl, ht⟩) (fun q h => absurd h List.not_mem_nil) dX0_leanOf_18
def mX0_mossOn (t_size : Int32) (c_t_moss : Nat → Int32) (p1 : Int32) : Option Int32 :=
  (mX0_has t_size p1).bind fun r1 => (if r1 = 0 then some 0 else (mw_rd c_t_moss 6 p1).bind fun e3 => some e3)
abbrev rmX0_mossOn : Room := ({ frames := 1, cells := 0, slots := 0, locals := 21 } : Room)
set_option maxHeartbeats 4000000 in
set_option maxRecDepth 100000 in
theorem kX0_mossOn (l : Launch) (D : va_G) (cA : ClassId) (t t_kinds t_deeps t_leans t_moss : Nat) (t_size : Int32) (c_t_moss : Nat → Int32) (p1 : Int32) (r : Int32) (hM : mX0_mossOn t_size c_t_moss p1 = some r) : Met l yX0_mossOn wsX0_mossOn rmX0_mossOn (va_Pc [.ref t, .int p1] (fun U => va_P D vwCl [(t, .inr (0, [.ref t_kinds, .ref t_deeps, .ref t_leans, .ref t_moss, .int t_size])), (t_moss, .inl (cA, 6, .inl c_t_moss))] U.heap ∧ mw_ev D cA U)) (vp_Si (fun v => v = r)) 0 0 (fun _ => False) := by
  unfold mX0_mossOn at hM
  refine Met.ofW (cc := cX0_mossOn) (maxL := 2) (ret := (some .int)) (by decide) rfl ?_
  intro p e s m args below meth c s₁ B hml hv
  obtain ⟨rfl, hP, hE⟩ := hv
  have hx := B.exec
  have hb := B.bytes
  have hr := B.returns
  have hts := atoms_spec (ws := wsX0_mossOn) B.pre
  have hown : s.vm.findClass RX0 = some m.cls := findClass_of_methodNamed B.named
  have hlocks := B.notSynchronized
  have hK := hE.1
  have hl := lv_entry ([.ref t, .int p1]) (n := 2) (Nat.le_of_ble_eq_true rfl)
  rw [lg_entry_eq]
  generalize (lg_sl ([.ref t, .int p1]) ++ List.replicate (2 - (lg_sl ([.ref t, .int p1])).length) Slot.unset).toArray = ls at hl ⊢
  have hl : lv_has ls 2 [(0, .ref t), (1, .int p1)] := hl
  refine mw_q (P := fun Q => W p l e (headSpec wsX0_mossOn rmX0_mossOn).room s m (([.ref t, .int p1] : List Value).toArray) below meth c s.heap [] 0 0 Q (F0 m 0 ls [])) (fun Q hQ => ?_)
  refine lv_aload_n hx hb dX0_mossOn_0 rfl (lv_at hl 0 rfl) ?_
  refine lv_iload_n hx hb dX0_mossOn_1 rfl (lv_at hl 1 rfl) ?_
  obtain ⟨r1, h1, hM⟩ := mw_d1 hM
  have hPc := hP.sub (ws' := [(t, .inr (0, [.ref t_kinds, .ref t_deeps, .ref t_leans, .ref t_moss, .int t_size]))]) [0] rfl
  refine vp_callSi (va_Run.run (va_runV (As := [.int p1]) (rest := []) ⟨hx, hb, hml, hown, hts⟩ (kX0_has l D cA t t_kinds t_deeps t_leans t_moss t_size p1 r1 h1) (cwV 1 hts gX0_mossOn_X0_has rfl rfl rfl (by decide +kernel) ⟨Nat.le_of_ble_eq_true rfl, Nat.le_of_ble_eq_true rfl⟩) ⟨mw_fbR, va_recv hK hP (ci := 0) (q0 := 0) rfl rfl, mw_puR hPc hE⟩ rfl rfl hl.1 rfl (lv_room (Nat.le_of_ble_eq_true rfl)) dX0_mossOn_2 ⟨Nat.zero_le _, Nat.zero_le _⟩)) (fun v_ e_ => ?_)
  obtain ⟨e_, b1⟩ := e_
  subst v_
  refine lv_if_eq (tgt := 17) hx hb dX0_mossOn_5 (by decide) (fun q2 => ?_) (fun q2 => ?_)
  · replace hM := mw_t hM q2
    refine lv_iconst (v := 0) hx hb dX0_mossOn_17 (by decide) ?_
    obtain rfl := mw_o1 hM
    subst hQ
    exact W.iret hx hb hr (fun t ht hW => ⟨_, rfl, rfl, ht⟩) (fun q h => absurd h List.not_mem_nil) dX0_mossOn_18
  · replace hM := mw_f hM q2
    refine lv_aload_n hx hb dX0_mossOn_8 rfl (lv_at hl 0 rfl) ?_
    refine va_get (D := D) (ci := 0) (v := .ref t_moss) (C := RX0) (T := TX0) (N := 5) hx hb hts (fun _ h => List.mem_cons_of_mem _ (List.mem_append_right _ (h))) hown hK hP 0 rfl rfl 3 (by decide) (hts (.fieldLink RX0 21 "MossWall$Clauses" "moss" "[I") (List.mem_cons_of_mem _ (List.mem_append_left _ (List.mem_of_getElem? (i := 0) rfl)))) (fun _ h9 => h9) rfl dX0_mossOn_9 ?_
    refine lv_iload_n hx hb dX0_mossOn_12 rfl (lv_at hl 1 rfl) ?_
    obtain ⟨e3, h3, hM⟩ := mw_d1 hM
    refine mw_iald hx hb hK hP 1 0 rfl rfl h3 dX0_mossOn_13 ?_
    refine lv_goto (tgt := 18) hx hb dX0_mossOn_14 (by decide) ?_
    obtain rfl := mw_o1 hM
    subst hQ
    exact W.iret hx hb hr (fun t ht hW => ⟨_, rfl, rfl, ht⟩) (fun q h => absurd h List.not_mem_nil) dX0_mossOn_18
def mX0_clear (t_size : Int32) : Option Int32 :=
  some 0
abbrev rmX0_clear : Room := ({ frames := 0, cells := 0, slots := 0, locals := 0 } : Room)
set_option maxHeartbeats 4000000 in
set_option maxRecDepth 100000 in
theorem kX0_clear (l : Launch) (D : va_G) (cA : ClassId) (t t_kinds t_deeps t_leans t_moss : Nat) (sz : Nat) (t_size : Int32) (o_t_size : Int32) (hM : mX0_clear t_size = some o_t_size) : Met l yX0_clear wsX0_clear rmX0_clear (va_Pc [.ref t] (fun U => U.heap.size = sz ∧ va_P D vwCl [(t, .inr (0, [.ref t_kinds, .ref t_deeps, .ref t_leans, .ref t_moss, .int t_size]))] U.heap ∧ mw_ev D cA U ∧ va_D (fun _ => True) [(t, .inr (0, [.ref t_kinds, .ref t_deeps, .ref t_leans, .ref t_moss, .int t_size]))])) (va_Qv (fun (_ : Unit) => True) (fun (_ : Unit) w_ => va_P D vwCl [(t, .inr (0, [.ref t_kinds, .ref t_deeps, .ref t_leans, .ref t_moss, .int o_t_size]))] w_.heap ∧ va_D (va_A [(t, .inr (0, [.ref t_kinds, .ref t_deeps, .ref t_leans, .ref t_moss, .int t_size]))] sz) [(t, .inr (0, [.ref t_kinds, .ref t_deeps, .ref t_leans, .ref t_moss, .int o_t_size]))]) (va_A [(t, .inr (0, [.ref t_kinds, .ref t_deeps, .ref t_leans, .ref t_moss, .int t_size]))] sz)) 0 0 (va_A [(t, .inr (0, [.ref t_kinds, .ref t_deeps, .ref t_leans, .ref t_moss, .int t_size]))] sz) := by
  unfold mX0_clear at hM
  refine Met.ofW (cc := cX0_clear) (maxL := 1) (ret := none) (by decide) rfl ?_
  intro p e s m args below meth c s₁ B hml hv
  obtain ⟨rfl, hsz, hP, hE, hD0⟩ := hv
  have hx := B.exec
  have hb := B.bytes
  have hr := B.returns
  have hts := atoms_spec (ws := wsX0_clear) B.pre
  have hown : s.vm.findClass RX0 = some m.cls := findClass_of_methodNamed B.named
  have hlocks := B.notSynchronized
  have hK := hE.1
  subst hsz
  have hD := hD0.self (sz := s.heap.size)
  generalize hAe : va_A [(t, .inr (0, [.ref t_kinds, .ref t_deeps, .ref t_leans, .ref t_moss, .int t_size]))] s.heap.size = A at hD ⊢
  have hA : ∀ q : Nat, s.heap.size ≤ q → A q := fun q h => by rw [← hAe]; exact Or.inr h
  have hS : va_S A s.heap s.heap [] := va_S.rf
  have hl := lv_entry ([.ref t]) (n := 1) (Nat.le_of_ble_eq_true rfl)
  rw [lg_entry_eq]
  generalize (lg_sl ([.ref t]) ++ List.replicate (1 - (lg_sl ([.ref t])).length) Slot.unset).toArray = ls at hl ⊢
  have hl : lv_has ls 1 [(0, .ref t)] := hl
  refine mw_q (P := fun Q => W p l e (headSpec wsX0_clear rmX0_clear).room s m (([.ref t] : List Value).toArray) below meth c s.heap [] 0 0 Q (F0 m 0 ls [])) (fun Q hQ => ?_)
  refine lv_aload_n hx hb dX0_clear_0 rfl (lv_at hl 0 rfl) ?_
  refine lv_iconst (v := 0) hx hb dX0_clear_1 (by decide) ?_
  refine va_put (D := D) (ci := 0) (v := .int 0) (ty := .int) (C := RX0) (T := TX0) (N := 5) hx hb hts (fun _ h => List.mem_cons_of_mem _ (List.mem_append_right _ (h))) tyX0 tyX0_ok nmX0 hown hK hP hD hS 0 rfl rfl 4 (by decide) (hts (.fieldLink RX0 24 "MossWall$Clauses" "size" "I") (List.mem_cons_of_mem _ (List.mem_append_left _ (List.mem_of_getElem? (i := 0) rfl)))) (fun _ h9 => h9) rfl (by decide +kernel) rfl rfl (Nat.le_of_ble_eq_true rfl) dX0_clear_2 (fun H locs hP hD hS => ?_)
  have hP : va_P D vwCl [(t, .inr (0, [.ref t_kinds, .ref t_deeps, .ref t_leans, .ref t_moss, .int 0]))] H := hP
  have hD : va_D A [(t, .inr (0, [.ref t_kinds, .ref t_deeps, .ref t_leans, .ref t_moss, .int 0]))] := hD
  obtain rfl := mw_o1 hM
  subst hQ
  exact W.vret hx hb hr (fun t ht hW => ⟨⟨(), rfl, trivial, by rw [ht]; exact hP, hD⟩, hS.F ht⟩) hS.2.2 dX0_clear_5
def mX0_add (t_size : Int32) (c_t_kinds : Nat → Int32) (c_t_deeps : Nat → Int32) (c_t_leans : Nat → Int32) (c_t_moss : Nat → Int32) (p1 : Int32) (p2 : Int32) (p3 : Int32) : Option (Int32 × (Nat → Int32) × (Nat → Int32) × (Nat → Int32) × (Nat → Int32)) :=
  (if 6 ≤ t_size then some (t_size, c_t_kinds, c_t_deeps, c_t_leans, c_t_moss) else (mw_wr c_t_kinds 6 t_size p1).bind fun a2_kinds => (mw_wr c_t_deeps 6 t_size p2).bind fun a3_deeps => (mw_wr c_t_leans 6 t_size p3).bind fun a4_leans => (mw_wr c_t_moss 6 t_size 0).bind fun a5_moss => some (t_size + 1, a2_kinds, a3_deeps, a4_leans, a5_moss))
abbrev rmX0_add : Room := ({ frames := 0, cells := 0, slots := 0, locals := 0 } : Room)
set_option maxHeartbeats 4000000 in
set_option maxRecDepth 100000 in
theorem kX0_add (l : Launch) (D : va_G) (cA : ClassId) (t t_kinds t_deeps t_leans t_moss : Nat) (sz : Nat) (t_size : Int32) (c_t_kinds : Nat → Int32) (c_t_deeps : Nat → Int32) (c_t_leans : Nat → Int32) (c_t_moss : Nat → Int32) (p1 : Int32) (p2 : Int32) (p3 : Int32) (o_t_size : Int32) (o_c_t_kinds : Nat → Int32) (o_c_t_deeps : Nat → Int32) (o_c_t_leans : Nat → Int32) (o_c_t_moss : Nat → Int32) (hM : mX0_add t_size c_t_kinds c_t_deeps c_t_leans c_t_moss p1 p2 p3 = some (o_t_size, o_c_t_kinds, o_c_t_deeps, o_c_t_leans, o_c_t_moss)) : Met l yX0_add wsX0_add rmX0_add (va_Pc [.ref t, .int p1, .int p2, .int p3] (fun U => U.heap.size = sz ∧ va_P D vwCl [(t, .inr (0, [.ref t_kinds, .ref t_deeps, .ref t_leans, .ref t_moss, .int t_size])), (t_kinds, .inl (cA, 6, .inl c_t_kinds)), (t_deeps, .inl (cA, 6, .inl c_t_deeps)), (t_leans, .inl (cA, 6, .inl c_t_leans)), (t_moss, .inl (cA, 6, .inl c_t_moss))] U.heap ∧ mw_ev D cA U ∧ va_D (fun _ => True) [(t, .inr (0, [.ref t_kinds, .ref t_deeps, .ref t_leans, .ref t_moss, .int t_size])), (t_kinds, .inl (cA, 6, .inl c_t_kinds)), (t_deeps, .inl (cA, 6, .inl c_t_deeps)), (t_leans, .inl (cA, 6, .inl c_t_leans)), (t_moss, .inl (cA, 6, .inl c_t_moss))])) (va_Qv (fun (_ : Unit) => True) (fun (_ : Unit) w_ => va_P D vwCl [(t, .inr (0, [.ref t_kinds, .ref t_deeps, .ref t_leans, .ref t_moss, .int o_t_size])), (t_kinds, .inl (cA, 6, .inl o_c_t_kinds)), (t_deeps, .inl (cA, 6, .inl o_c_t_deeps)), (t_leans, .inl (cA, 6, .inl o_c_t_leans)), (t_moss, .inl (cA, 6, .inl o_c_t_moss))] w_.heap ∧ va_D (va_A [(t, .inr (0, [.ref t_kinds, .ref t_deeps, .ref t_leans, .ref t_moss, .int t_size])), (t_kinds, .inl (cA, 6, .inl c_t_kinds)), (t_deeps, .inl (cA, 6, .inl c_t_deeps)), (t_leans, .inl (cA, 6, .inl c_t_leans)), (t_moss, .inl (cA, 6, .inl c_t_moss))] sz) [(t, .inr (0, [.ref t_kinds, .ref t_deeps, .ref t_leans, .ref t_moss, .int o_t_size])), (t_kinds, .inl (cA, 6, .inl o_c_t_kinds)), (t_deeps, .inl (cA, 6, .inl o_c_t_deeps)), (t_leans, .inl (cA, 6, .inl o_c_t_leans)), (t_moss, .inl (cA, 6, .inl o_c_t_moss))]) (va_A [(t, .inr (0, [.ref t_kinds, .ref t_deeps, .ref t_leans, .ref t_moss, .int t_size])), (t_kinds, .inl (cA, 6, .inl c_t_kinds)), (t_deeps, .inl (cA, 6, .inl c_t_deeps)), (t_leans, .inl (cA, 6, .inl c_t_leans)), (t_moss, .inl (cA, 6, .inl c_t_moss))] sz)) 0 0 (va_A [(t, .inr (0, [.ref t_kinds, .ref t_deeps, .ref t_leans, .ref t_moss, .int t_size])), (t_kinds, .inl (cA, 6, .inl c_t_kinds)), (t_deeps, .inl (cA, 6, .inl c_t_deeps)), (t_leans, .inl (cA, 6, .inl c_t_leans)), (t_moss, .inl (cA, 6, .inl c_t_moss))] sz) := by
  unfold mX0_add at hM
  refine Met.ofW (cc := cX0_add) (maxL := 4) (ret := none) (by decide) rfl ?_
  intro p e s m args below meth c s₁ B hml hv
  obtain ⟨rfl, hsz, hP, hE, hD0⟩ := hv
  have hx := B.exec
  have hb := B.bytes
  have hr := B.returns
  have hts := atoms_spec (ws := wsX0_add) B.pre
  have hown : s.vm.findClass RX0 = some m.cls := findClass_of_methodNamed B.named
  have hlocks := B.notSynchronized
  have hK := hE.1
  subst hsz
  have hD := hD0.self (sz := s.heap.size)
  generalize hAe : va_A [(t, .inr (0, [.ref t_kinds, .ref t_deeps, .ref t_leans, .ref t_moss, .int t_size])), (t_kinds, .inl (cA, 6, .inl c_t_kinds)), (t_deeps, .inl (cA, 6, .inl c_t_deeps)), (t_leans, .inl (cA, 6, .inl c_t_leans)), (t_moss, .inl (cA, 6, .inl c_t_moss))] s.heap.size = A at hD ⊢
  have hA : ∀ q : Nat, s.heap.size ≤ q → A q := fun q h => by rw [← hAe]; exact Or.inr h
  have hS : va_S A s.heap s.heap [] := va_S.rf
  have hl := lv_entry ([.ref t, .int p1, .int p2, .int p3]) (n := 4) (Nat.le_of_ble_eq_true rfl)
  rw [lg_entry_eq]
  generalize (lg_sl ([.ref t, .int p1, .int p2, .int p3]) ++ List.replicate (4 - (lg_sl ([.ref t, .int p1, .int p2, .int p3])).length) Slot.unset).toArray = ls at hl ⊢
  have hl : lv_has ls 4 [(0, .ref t), (1, .int p1), (2, .int p2), (3, .int p3)] := hl
  refine mw_q (P := fun Q => W p l e (headSpec wsX0_add rmX0_add).room s m (([.ref t, .int p1, .int p2, .int p3] : List Value).toArray) below meth c s.heap [] 0 0 Q (F0 m 0 ls [])) (fun Q hQ => ?_)
  refine lv_aload_n hx hb dX0_add_0 rfl (lv_at hl 0 rfl) ?_
  refine va_get (D := D) (ci := 0) (v := .int t_size) (C := RX0) (T := TX0) (N := 5) hx hb hts (fun _ h => List.mem_cons_of_mem _ (List.mem_append_right _ (h))) hown hK hP 0 rfl rfl 4 (by decide) (hts (.fieldLink RX0 24 "MossWall$Clauses" "size" "I") (List.mem_cons_of_mem _ (List.mem_append_left _ (List.mem_of_getElem? (i := 0) rfl)))) (fun _ h9 => h9) rfl dX0_add_1 ?_
  refine lv_bipush (v := 6) hx hb dX0_add_4 (by decide) ?_
  refine lv_icmp_ge (tgt := 59) hx hb dX0_add_6 (by decide) (fun q1 => ?_) (fun q1 => ?_)
  · replace hM := mw_t hM q1
    obtain ⟨rfl, rfl, rfl, rfl, rfl⟩ := mw_o5 hM
    subst hQ
    exact W.vret hx hb hr (fun t ht hW => ⟨⟨(), rfl, trivial, by rw [ht]; exact hP, hD⟩, hS.F ht⟩) hS.2.2 dX0_add_59
  · replace hM := mw_f hM q1
    refine lv_aload_n hx hb dX0_add_9 rfl (lv_at hl 0 rfl) ?_
    refine va_get (D := D) (ci := 0) (v := .ref t_kinds) (C := RX0) (T := TX0) (N := 5) hx hb hts (fun _ h => List.mem_cons_of_mem _ (List.mem_append_right _ (h))) hown hK hP 0 rfl rfl 0 (by decide) (hts (.fieldLink RX0 9 "MossWall$Clauses" "kinds" "[I") (List.mem_cons_of_mem _ (List.mem_append_left _ (List.mem_of_getElem? (i := 1) rfl)))) (fun _ h9 => h9) rfl dX0_add_10 ?_
    refine lv_aload_n hx hb dX0_add_13 rfl (lv_at hl 0 rfl) ?_
    refine va_get (D := D) (ci := 0) (v := .int t_size) (C := RX0) (T := TX0) (N := 5) hx hb hts (fun _ h => List.mem_cons_of_mem _ (List.mem_append_right _ (h))) hown hK hP 0 rfl rfl 4 (by decide) (hts (.fieldLink RX0 24 "MossWall$Clauses" "size" "I") (List.mem_cons_of_mem _ (List.mem_append_left _ (List.mem_of_getElem? (i := 0) rfl)))) (fun _ h9 => h9) rfl dX0_add_14 ?_
    refine lv_iload_n hx hb dX0_add_17 rfl (lv_at hl 1 rfl) ?_
    obtain ⟨a2_kinds, h2, hM⟩ := mw_d1 hM
    refine mw_iast hx hb hK hP hD hS 1 0 rfl rfl h2 dX0_add_18 (fun H locs hP hD hS => ?_)
    have hP : va_P D vwCl [(t, .inr (0, [.ref t_kinds, .ref t_deeps, .ref t_leans, .ref t_moss, .int t_size])), (t_kinds, .inl (cA, 6, .inl a2_kinds)), (t_deeps, .inl (cA, 6, .inl c_t_deeps)), (t_leans, .inl (cA, 6, .inl c_t_leans)), (t_moss, .inl (cA, 6, .inl c_t_moss))] H := hP
    have hD : va_D A [(t, .inr (0, [.ref t_kinds, .ref t_deeps, .ref t_leans, .ref t_moss, .int t_size])), (t_kinds, .inl (cA, 6, .inl a2_kinds)), (t_deeps, .inl (cA, 6, .inl c_t_deeps)), (t_leans, .inl (cA, 6, .inl c_t_leans)), (t_moss, .inl (cA, 6, .inl c_t_moss))] := hD
    refine lv_aload_n hx hb dX0_add_19 rfl (lv_at hl 0 rfl) ?_
    refine va_get (D := D) (ci := 0) (v := .ref t_deeps) (C := RX0) (T := TX0) (N := 5) hx hb hts (fun _ h => List.mem_cons_of_mem _ (List.mem_append_right _ (h))) hown hK hP 0 rfl rfl 1 (by decide) (hts (.fieldLink RX0 15 "MossWall$Clauses" "deeps" "[I") (List.mem_cons_of_mem _ (List.mem_append_left _ (List.mem_of_getElem? (i := 2) rfl)))) (fun _ h9 => h9) rfl dX0_add_20 ?_
    refine lv_aload_n hx hb dX0_add_23 rfl (lv_at hl 0 rfl) ?_
    refine va_get (D := D) (ci := 0) (v := .int t_size) (C := RX0) (T := TX0) (N := 5) hx hb hts (fun _ h => List.mem_cons_of_mem _ (List.mem_append_right _ (h))) hown hK hP 0 rfl rfl 4 (by decide) (hts (.fieldLink RX0 24 "MossWall$Clauses" "size" "I") (List.mem_cons_of_mem _ (List.mem_append_left _ (List.mem_of_getElem? (i := 0) rfl)))) (fun _ h9 => h9) rfl dX0_add_24 ?_
    refine lv_iload_n hx hb dX0_add_27 rfl (lv_at hl 2 rfl) ?_
    obtain ⟨a3_deeps, h3, hM⟩ := mw_d1 hM
    refine mw_iast hx hb hK hP hD hS 2 0 rfl rfl h3 dX0_add_28 (fun H locs hP hD hS => ?_)
    have hP : va_P D vwCl [(t, .inr (0, [.ref t_kinds, .ref t_deeps, .ref t_leans, .ref t_moss, .int t_size])), (t_kinds, .inl (cA, 6, .inl a2_kinds)), (t_deeps, .inl (cA, 6, .inl a3_deeps)), (t_leans, .inl (cA, 6, .inl c_t_leans)), (t_moss, .inl (cA, 6, .inl c_t_moss))] H := hP
    have hD : va_D A [(t, .inr (0, [.ref t_kinds, .ref t_deeps, .ref t_leans, .ref t_moss, .int t_size])), (t_kinds, .inl (cA, 6, .inl a2_kinds)), (t_deeps, .inl (cA, 6, .inl a3_deeps)), (t_leans, .inl (cA, 6, .inl c_t_leans)), (t_moss, .inl (cA, 6, .inl c_t_moss))] := hD
    refine lv_aload_n hx hb dX0_add_29 rfl (lv_at hl 0 rfl) ?_
    refine va_get (D := D) (ci := 0) (v := .ref t_leans) (C := RX0) (T := TX0) (N := 5) hx hb hts (fun _ h => List.mem_cons_of_mem _ (List.mem_append_right _ (h))) hown hK hP 0 rfl rfl 2 (by decide) (hts (.fieldLink RX0 18 "MossWall$Clauses" "leans" "[I") (List.mem_cons_of_mem _ (List.mem_append_left _ (List.mem_of_getElem? (i := 3) rfl)))) (fun _ h9 => h9) rfl dX0_add_30 ?_
    refine lv_aload_n hx hb dX0_add_33 rfl (lv_at hl 0 rfl) ?_
    refine va_get (D := D) (ci := 0) (v := .int t_size) (C := RX0) (T := TX0) (N := 5) hx hb hts (fun _ h => List.mem_cons_of_mem _ (List.mem_append_right _ (h))) hown hK hP 0 rfl rfl 4 (by decide) (hts (.fieldLink RX0 24 "MossWall$Clauses" "size" "I") (List.mem_cons_of_mem _ (List.mem_append_left _ (List.mem_of_getElem? (i := 0) rfl)))) (fun _ h9 => h9) rfl dX0_add_34 ?_
    refine lv_iload_n hx hb dX0_add_37 rfl (lv_at hl 3 rfl) ?_
    obtain ⟨a4_leans, h4, hM⟩ := mw_d1 hM
    refine mw_iast hx hb hK hP hD hS 3 0 rfl rfl h4 dX0_add_38 (fun H locs hP hD hS => ?_)
    have hP : va_P D vwCl [(t, .inr (0, [.ref t_kinds, .ref t_deeps, .ref t_leans, .ref t_moss, .int t_size])), (t_kinds, .inl (cA, 6, .inl a2_kinds)), (t_deeps, .inl (cA, 6, .inl a3_deeps)), (t_leans, .inl (cA, 6, .inl a4_leans)), (t_moss, .inl (cA, 6, .inl c_t_moss))] H := hP
    have hD : va_D A [(t, .inr (0, [.ref t_kinds, .ref t_deeps, .ref t_leans, .ref t_moss, .int t_size])), (t_kinds, .inl (cA, 6, .inl a2_kinds)), (t_deeps, .inl (cA, 6, .inl a3_deeps)), (t_leans, .inl (cA, 6, .inl a4_leans)), (t_moss, .inl (cA, 6, .inl c_t_moss))] := hD
    refine lv_aload_n hx hb dX0_add_39 rfl (lv_at hl 0 rfl) ?_
    refine va_get (D := D) (ci := 0) (v := .ref t_moss) (C := RX0) (T := TX0) (N := 5) hx hb hts (fun _ h => List.mem_cons_of_mem _ (List.mem_append_right _ (h))) hown hK hP 0 rfl rfl 3 (by decide) (hts (.fieldLink RX0 21 "MossWall$Clauses" "moss" "[I") (List.mem_cons_of_mem _ (List.mem_append_left _ (List.mem_of_getElem? (i := 4) rfl)))) (fun _ h9 => h9) rfl dX0_add_40 ?_
    refine lv_aload_n hx hb dX0_add_43 rfl (lv_at hl 0 rfl) ?_
    refine va_get (D := D) (ci := 0) (v := .int t_size) (C := RX0) (T := TX0) (N := 5) hx hb hts (fun _ h => List.mem_cons_of_mem _ (List.mem_append_right _ (h))) hown hK hP 0 rfl rfl 4 (by decide) (hts (.fieldLink RX0 24 "MossWall$Clauses" "size" "I") (List.mem_cons_of_mem _ (List.mem_append_left _ (List.mem_of_getElem? (i := 0) rfl)))) (fun _ h9 => h9) rfl dX0_add_44 ?_
    refine lv_iconst (v := 0) hx hb dX0_add_47 (by decide) ?_
    obtain ⟨a5_moss, h5, hM⟩ := mw_d1 hM
    refine mw_iast hx hb hK hP hD hS 4 0 rfl rfl h5 dX0_add_48 (fun H locs hP hD hS => ?_)
    have hP : va_P D vwCl [(t, .inr (0, [.ref t_kinds, .ref t_deeps, .ref t_leans, .ref t_moss, .int t_size])), (t_kinds, .inl (cA, 6, .inl a2_kinds)), (t_deeps, .inl (cA, 6, .inl a3_deeps)), (t_leans, .inl (cA, 6, .inl a4_leans)), (t_moss, .inl (cA, 6, .inl a5_moss))] H := hP
    have hD : va_D A [(t, .inr (0, [.ref t_kinds, .ref t_deeps, .ref t_leans, .ref t_moss, .int t_size])), (t_kinds, .inl (cA, 6, .inl a2_kinds)), (t_deeps, .inl (cA, 6, .inl a3_deeps)), (t_leans, .inl (cA, 6, .inl a4_leans)), (t_moss, .inl (cA, 6, .inl a5_moss))] := hD
    refine lv_aload_n hx hb dX0_add_49 rfl (lv_at hl 0 rfl) ?_
    refine lv_dup hx hb dX0_add_50 rfl ?_
    refine va_get (D := D) (ci := 0) (v := .int t_size) (C := RX0) (T := TX0) (N := 5) hx hb hts (fun _ h => List.mem_cons_of_mem _ (List.mem_append_right _ (h))) hown hK hP 0 rfl rfl 4 (by decide) (hts (.fieldLink RX0 24 "MossWall$Clauses" "size" "I") (List.mem_cons_of_mem _ (List.mem_append_left _ (List.mem_of_getElem? (i := 0) rfl)))) (fun _ h9 => h9) rfl dX0_add_51 ?_
    refine lv_iconst (v := 1) hx hb dX0_add_54 (by decide) ?_
    refine lv_iadd hx hb dX0_add_55 ?_
    refine va_put (D := D) (ci := 0) (v := .int (t_size + 1)) (ty := .int) (C := RX0) (T := TX0) (N := 5) hx hb hts (fun _ h => List.mem_cons_of_mem _ (List.mem_append_right _ (h))) tyX0 tyX0_ok nmX0 hown hK hP hD hS 0 rfl rfl 4 (by decide) (hts (.fieldLink RX0 24 "MossWall$Clauses" "size" "I") (List.mem_cons_of_mem _ (List.mem_append_left _ (List.mem_of_getElem? (i := 0) rfl)))) (fun _ h9 => h9) rfl (by decide +kernel) rfl rfl (Nat.le_of_ble_eq_true rfl) dX0_add_56 (fun H locs hP hD hS => ?_)
    have hP : va_P D vwCl [(t, .inr (0, [.ref t_kinds, .ref t_deeps, .ref t_leans, .ref t_moss, .int (t_size + 1)])), (t_kinds, .inl (cA, 6, .inl a2_kinds)), (t_deeps, .inl (cA, 6, .inl a3_deeps)), (t_leans, .inl (cA, 6, .inl a4_leans)), (t_moss, .inl (cA, 6, .inl a5_moss))] H := hP
    have hD : va_D A [(t, .inr (0, [.ref t_kinds, .ref t_deeps, .ref t_leans, .ref t_moss, .int (t_size + 1)])), (t_kinds, .inl (cA, 6, .inl a2_kinds)), (t_deeps, .inl (cA, 6, .inl a3_deeps)), (t_leans, .inl (cA, 6, .inl a4_leans)), (t_moss, .inl (cA, 6, .inl a5_moss))] := hD
    obtain ⟨rfl, rfl, rfl, rfl, rfl⟩ := mw_o5 hM
    subst hQ
    exact W.vret hx hb hr (fun t ht hW => ⟨⟨(), rfl, trivial, by rw [ht]; exact hP, hD⟩, hS.F ht⟩) hS.2.2 dX0_add_59
def mX0_setKind (t_size : Int32) (c_t_kinds : Nat → Int32) (c_t_deeps : Nat → Int32) (p1 : Int32) (p2 : Int32) (p3 : Int32) : Option ((Nat → Int32) × (Nat → Int32)) :=
  (mX0_has t_size p1).bind fun r1 => (if r1 = 0 then some (c_t_kinds, c_t_deeps) else (mw_wr c_t_kinds 6 p1 p2).bind fun a3_kinds => (mw_wr c_t_deeps 6 p1 p3).bind fun a4_deeps => some (a3_kinds, a4_deeps))
abbrev rmX0_setKind : Room := ({ frames := 1, cells := 0, slots := 0, locals := 21 } : Room)
set_option maxHeartbeats 4000000 in
set_option maxRecDepth 100000 in
theorem kX0_setKind (l : Launch) (D : va_G) (cA : ClassId) (t t_kinds t_deeps t_leans t_moss : Nat) (sz : Nat) (t_size : Int32) (c_t_kinds : Nat → Int32) (c_t_deeps : Nat → Int32) (p1 : Int32) (p2 : Int32) (p3 : Int32) (o_c_t_kinds : Nat → Int32) (o_c_t_deeps : Nat → Int32) (hM : mX0_setKind t_size c_t_kinds c_t_deeps p1 p2 p3 = some (o_c_t_kinds, o_c_t_deeps)) : Met l yX0_setKind wsX0_setKind rmX0_setKind (va_Pc [.ref t, .int p1, .int p2, .int p3] (fun U => U.heap.size = sz ∧ va_P D vwCl [(t, .inr (0, [.ref t_kinds, .ref t_deeps, .ref t_leans, .ref t_moss, .int t_size])), (t_kinds, .inl (cA, 6, .inl c_t_kinds)), (t_deeps, .inl (cA, 6, .inl c_t_deeps))] U.heap ∧ mw_ev D cA U ∧ va_D (fun _ => True) [(t, .inr (0, [.ref t_kinds, .ref t_deeps, .ref t_leans, .ref t_moss, .int t_size])), (t_kinds, .inl (cA, 6, .inl c_t_kinds)), (t_deeps, .inl (cA, 6, .inl c_t_deeps))])) (va_Qv (fun (_ : Unit) => True) (fun (_ : Unit) w_ => va_P D vwCl [(t, .inr (0, [.ref t_kinds, .ref t_deeps, .ref t_leans, .ref t_moss, .int t_size])), (t_kinds, .inl (cA, 6, .inl o_c_t_kinds)), (t_deeps, .inl (cA, 6, .inl o_c_t_deeps))] w_.heap ∧ va_D (va_A [(t, .inr (0, [.ref t_kinds, .ref t_deeps, .ref t_leans, .ref t_moss, .int t_size])), (t_kinds, .inl (cA, 6, .inl c_t_kinds)), (t_deeps, .inl (cA, 6, .inl c_t_deeps))] sz) [(t, .inr (0, [.ref t_kinds, .ref t_deeps, .ref t_leans, .ref t_moss, .int t_size])), (t_kinds, .inl (cA, 6, .inl o_c_t_kinds)), (t_deeps, .inl (cA, 6, .inl o_c_t_deeps))]) (va_A [(t, .inr (0, [.ref t_kinds, .ref t_deeps, .ref t_leans, .ref t_moss, .int t_size])), (t_kinds, .inl (cA, 6, .inl c_t_kinds)), (t_deeps, .inl (cA, 6, .inl c_t_deeps))] sz)) 0 0 (va_A [(t, .inr (0, [.ref t_kinds, .ref t_deeps, .ref t_leans, .ref t_moss, .int t_size])), (t_kinds, .inl (cA, 6, .inl c_t_kinds)), (t_deeps, .inl (cA, 6, .inl c_t_deeps))] sz) := by
  unfold mX0_setKind at hM
  refine Met.ofW (cc := cX0_setKind) (maxL := 4) (ret := none) (by decide) rfl ?_
  intro p e s m args below meth c s₁ B hml hv
  obtain ⟨rfl, hsz, hP, hE, hD0⟩ := hv
  have hx := B.exec
  have hb := B.bytes
  have hr := B.returns
  have hts := atoms_spec (ws := wsX0_setKind) B.pre
  have hown : s.vm.findClass RX0 = some m.cls := findClass_of_methodNamed B.named
  have hlocks := B.notSynchronized
  have hK := hE.1
  subst hsz
  have hD := hD0.self (sz := s.heap.size)
  generalize hAe : va_A [(t, .inr (0, [.ref t_kinds, .ref t_deeps, .ref t_leans, .ref t_moss, .int t_size])), (t_kinds, .inl (cA, 6, .inl c_t_kinds)), (t_deeps, .inl (cA, 6, .inl c_t_deeps))] s.heap.size = A at hD ⊢
  have hA : ∀ q : Nat, s.heap.size ≤ q → A q := fun q h => by rw [← hAe]; exact Or.inr h
  have hS : va_S A s.heap s.heap [] := va_S.rf
  have hl := lv_entry ([.ref t, .int p1, .int p2, .int p3]) (n := 4) (Nat.le_of_ble_eq_true rfl)
  rw [lg_entry_eq]
  generalize (lg_sl ([.ref t, .int p1, .int p2, .int p3]) ++ List.replicate (4 - (lg_sl ([.ref t, .int p1, .int p2, .int p3])).length) Slot.unset).toArray = ls at hl ⊢
  have hl : lv_has ls 4 [(0, .ref t), (1, .int p1), (2, .int p2), (3, .int p3)] := hl
  refine mw_q (P := fun Q => W p l e (headSpec wsX0_setKind rmX0_setKind).room s m (([.ref t, .int p1, .int p2, .int p3] : List Value).toArray) below meth c s.heap [] 0 0 Q (F0 m 0 ls [])) (fun Q hQ => ?_)
  refine lv_aload_n hx hb dX0_setKind_0 rfl (lv_at hl 0 rfl) ?_
  refine lv_iload_n hx hb dX0_setKind_1 rfl (lv_at hl 1 rfl) ?_
  obtain ⟨r1, h1, hM⟩ := mw_d1 hM
  have hPc := hP.sub (ws' := [(t, .inr (0, [.ref t_kinds, .ref t_deeps, .ref t_leans, .ref t_moss, .int t_size]))]) [0] rfl
  refine vp_callSi (va_Run.run (va_runV (As := [.int p1]) (rest := []) ⟨hx, hb, hml, hown, hts⟩ (kX0_has l D cA t t_kinds t_deeps t_leans t_moss t_size p1 r1 h1) (cwV 1 hts gX0_setKind_X0_has rfl rfl rfl (by decide +kernel) ⟨Nat.le_of_ble_eq_true rfl, Nat.le_of_ble_eq_true rfl⟩) ⟨mw_fbR, va_recv hK hP (ci := 0) (q0 := 0) rfl rfl, mw_puR hPc hE⟩ rfl rfl hl.1 rfl (lv_room (Nat.le_of_ble_eq_true rfl)) dX0_setKind_2 ⟨Nat.zero_le _, Nat.zero_le _⟩)) (fun v_ e_ => ?_)
  obtain ⟨e_, b1⟩ := e_
  subst v_
  refine lv_if_eq (tgt := 22) hx hb dX0_setKind_5 (by decide) (fun q2 => ?_) (fun q2 => ?_)
  · replace hM := mw_t hM q2
    obtain ⟨rfl, rfl⟩ := mw_o2 hM
    subst hQ
    exact W.vret hx hb hr (fun t ht hW => ⟨⟨(), rfl, trivial, by rw [ht]; exact hP, hD⟩, hS.F ht⟩) hS.2.2 dX0_setKind_22
  · replace hM := mw_f hM q2
    refine lv_aload_n hx hb dX0_setKind_8 rfl (lv_at hl 0 rfl) ?_
    refine va_get (D := D) (ci := 0) (v := .ref t_kinds) (C := RX0) (T := TX0) (N := 5) hx hb hts (fun _ h => List.mem_cons_of_mem _ (List.mem_append_right _ (h))) hown hK hP 0 rfl rfl 0 (by decide) (hts (.fieldLink RX0 9 "MossWall$Clauses" "kinds" "[I") (List.mem_cons_of_mem _ (List.mem_append_left _ (List.mem_of_getElem? (i := 0) rfl)))) (fun _ h9 => h9) rfl dX0_setKind_9 ?_
    refine lv_iload_n hx hb dX0_setKind_12 rfl (lv_at hl 1 rfl) ?_
    refine lv_iload_n hx hb dX0_setKind_13 rfl (lv_at hl 2 rfl) ?_
    obtain ⟨a3_kinds, h3, hM⟩ := mw_d1 hM
    refine mw_iast hx hb hK hP hD hS 1 0 rfl rfl h3 dX0_setKind_14 (fun H locs hP hD hS => ?_)
    have hP : va_P D vwCl [(t, .inr (0, [.ref t_kinds, .ref t_deeps, .ref t_leans, .ref t_moss, .int t_size])), (t_kinds, .inl (cA, 6, .inl a3_kinds)), (t_deeps, .inl (cA, 6, .inl c_t_deeps))] H := hP
    have hD : va_D A [(t, .inr (0, [.ref t_kinds, .ref t_deeps, .ref t_leans, .ref t_moss, .int t_size])), (t_kinds, .inl (cA, 6, .inl a3_kinds)), (t_deeps, .inl (cA, 6, .inl c_t_deeps))] := hD
    refine lv_aload_n hx hb dX0_setKind_15 rfl (lv_at hl 0 rfl) ?_
    refine va_get (D := D) (ci := 0) (v := .ref t_deeps) (C := RX0) (T := TX0) (N := 5) hx hb hts (fun _ h => List.mem_cons_of_mem _ (List.mem_append_right _ (h))) hown hK hP 0 rfl rfl 1 (by decide) (hts (.fieldLink RX0 15 "MossWall$Clauses" "deeps" "[I") (List.mem_cons_of_mem _ (List.mem_append_left _ (List.mem_of_getElem? (i := 1) rfl)))) (fun _ h9 => h9) rfl dX0_setKind_16 ?_
    refine lv_iload_n hx hb dX0_setKind_19 rfl (lv_at hl 1 rfl) ?_
    refine lv_iload_n hx hb dX0_setKind_20 rfl (lv_at hl 3 rfl) ?_
    obtain ⟨a4_deeps, h4, hM⟩ := mw_d1 hM
    refine mw_iast hx hb hK hP hD hS 2 0 rfl rfl h4 dX0_setKind_21 (fun H locs hP hD hS => ?_)
    have hP : va_P D vwCl [(t, .inr (0, [.ref t_kinds, .ref t_deeps, .ref t_leans, .ref t_moss, .int t_size])), (t_kinds, .inl (cA, 6, .inl a3_kinds)), (t_deeps, .inl (cA, 6, .inl a4_deeps))] H := hP
    have hD : va_D A [(t, .inr (0, [.ref t_kinds, .ref t_deeps, .ref t_leans, .ref t_moss, .int t_size])), (t_kinds, .inl (cA, 6, .inl a3_kinds)), (t_deeps, .inl (cA, 6, .inl a4_deeps))] := hD
    obtain ⟨rfl, rfl⟩ := mw_o2 hM
    subst hQ
    exact W.vret hx hb hr (fun t ht hW => ⟨⟨(), rfl, trivial, by rw [ht]; exact hP, hD⟩, hS.F ht⟩) hS.2.2 dX0_setKind_22
def mX0_setLean (t_size : Int32) (c_t_leans : Nat → Int32) (p1 : Int32) (p2 : Int32) : Option ((Nat → Int32)) :=
  (mX0_has t_size p1).bind fun r1 => (if r1 = 0 then some c_t_leans else (mw_wr c_t_leans 6 p1 p2).bind fun a3_leans => some a3_leans)
abbrev rmX0_setLean : Room := ({ frames := 1, cells := 0, slots := 0, locals := 21 } : Room)
set_option maxHeartbeats 4000000 in
set_option maxRecDepth 100000 in
theorem kX0_setLean (l : Launch) (D : va_G) (cA : ClassId) (t t_kinds t_deeps t_leans t_moss : Nat) (sz : Nat) (t_size : Int32) (c_t_leans : Nat → Int32) (p1 : Int32) (p2 : Int32) (o_c_t_leans : Nat → Int32) (hM : mX0_setLean t_size c_t_leans p1 p2 = some o_c_t_leans) : Met l yX0_setLean wsX0_setLean rmX0_setLean (va_Pc [.ref t, .int p1, .int p2] (fun U => U.heap.size = sz ∧ va_P D vwCl [(t, .inr (0, [.ref t_kinds, .ref t_deeps, .ref t_leans, .ref t_moss, .int t_size])), (t_leans, .inl (cA, 6, .inl c_t_leans))] U.heap ∧ mw_ev D cA U ∧ va_D (fun _ => True) [(t, .inr (0, [.ref t_kinds, .ref t_deeps, .ref t_leans, .ref t_moss, .int t_size])), (t_leans, .inl (cA, 6, .inl c_t_leans))])) (va_Qv (fun (_ : Unit) => True) (fun (_ : Unit) w_ => va_P D vwCl [(t, .inr (0, [.ref t_kinds, .ref t_deeps, .ref t_leans, .ref t_moss, .int t_size])), (t_leans, .inl (cA, 6, .inl o_c_t_leans))] w_.heap ∧ va_D (va_A [(t, .inr (0, [.ref t_kinds, .ref t_deeps, .ref t_leans, .ref t_moss, .int t_size])), (t_leans, .inl (cA, 6, .inl c_t_leans))] sz) [(t, .inr (0, [.ref t_kinds, .ref t_deeps, .ref t_leans, .ref t_moss, .int t_size])), (t_leans, .inl (cA, 6, .inl o_c_t_leans))]) (va_A [(t, .inr (0, [.ref t_kinds, .ref t_deeps, .ref t_leans, .ref t_moss, .int t_size])), (t_leans, .inl (cA, 6, .inl c_t_leans))] sz)) 0 0 (va_A [(t, .inr (0, [.ref t_kinds, .ref t_deeps, .ref t_leans, .ref t_moss, .int t_size])), (t_leans, .inl (cA, 6, .inl c_t_leans))] sz) := by
  unfold mX0_setLean at hM
  refine Met.ofW (cc := cX0_setLean) (maxL := 3) (ret := none) (by decide) rfl ?_
  intro p e s m args below meth c s₁ B hml hv
  obtain ⟨rfl, hsz, hP, hE, hD0⟩ := hv
  have hx := B.exec
  have hb := B.bytes
  have hr := B.returns
  have hts := atoms_spec (ws := wsX0_setLean) B.pre
  have hown : s.vm.findClass RX0 = some m.cls := findClass_of_methodNamed B.named
  have hlocks := B.notSynchronized
  have hK := hE.1
  subst hsz
  have hD := hD0.self (sz := s.heap.size)
  generalize hAe : va_A [(t, .inr (0, [.ref t_kinds, .ref t_deeps, .ref t_leans, .ref t_moss, .int t_size])), (t_leans, .inl (cA, 6, .inl c_t_leans))] s.heap.size = A at hD ⊢
  have hA : ∀ q : Nat, s.heap.size ≤ q → A q := fun q h => by rw [← hAe]; exact Or.inr h
  have hS : va_S A s.heap s.heap [] := va_S.rf
  have hl := lv_entry ([.ref t, .int p1, .int p2]) (n := 3) (Nat.le_of_ble_eq_true rfl)
  rw [lg_entry_eq]
  generalize (lg_sl ([.ref t, .int p1, .int p2]) ++ List.replicate (3 - (lg_sl ([.ref t, .int p1, .int p2])).length) Slot.unset).toArray = ls at hl ⊢
  have hl : lv_has ls 3 [(0, .ref t), (1, .int p1), (2, .int p2)] := hl
  refine mw_q (P := fun Q => W p l e (headSpec wsX0_setLean rmX0_setLean).room s m (([.ref t, .int p1, .int p2] : List Value).toArray) below meth c s.heap [] 0 0 Q (F0 m 0 ls [])) (fun Q hQ => ?_)
  refine lv_aload_n hx hb dX0_setLean_0 rfl (lv_at hl 0 rfl) ?_
  refine lv_iload_n hx hb dX0_setLean_1 rfl (lv_at hl 1 rfl) ?_
  obtain ⟨r1, h1, hM⟩ := mw_d1 hM
  have hPc := hP.sub (ws' := [(t, .inr (0, [.ref t_kinds, .ref t_deeps, .ref t_leans, .ref t_moss, .int t_size]))]) [0] rfl
  refine vp_callSi (va_Run.run (va_runV (As := [.int p1]) (rest := []) ⟨hx, hb, hml, hown, hts⟩ (kX0_has l D cA t t_kinds t_deeps t_leans t_moss t_size p1 r1 h1) (cwV 1 hts gX0_setLean_X0_has rfl rfl rfl (by decide +kernel) ⟨Nat.le_of_ble_eq_true rfl, Nat.le_of_ble_eq_true rfl⟩) ⟨mw_fbR, va_recv hK hP (ci := 0) (q0 := 0) rfl rfl, mw_puR hPc hE⟩ rfl rfl hl.1 rfl (lv_room (Nat.le_of_ble_eq_true rfl)) dX0_setLean_2 ⟨Nat.zero_le _, Nat.zero_le _⟩)) (fun v_ e_ => ?_)
  obtain ⟨e_, b1⟩ := e_
  subst v_
  refine lv_if_eq (tgt := 15) hx hb dX0_setLean_5 (by decide) (fun q2 => ?_) (fun q2 => ?_)
  · replace hM := mw_t hM q2
    obtain rfl := mw_o1 hM
    subst hQ
    exact W.vret hx hb hr (fun t ht hW => ⟨⟨(), rfl, trivial, by rw [ht]; exact hP, hD⟩, hS.F ht⟩) hS.2.2 dX0_setLean_15
  · replace hM := mw_f hM q2
    refine lv_aload_n hx hb dX0_setLean_8 rfl (lv_at hl 0 rfl) ?_
    refine va_get (D := D) (ci := 0) (v := .ref t_leans) (C := RX0) (T := TX0) (N := 5) hx hb hts (fun _ h => List.mem_cons_of_mem _ (List.mem_append_right _ (h))) hown hK hP 0 rfl rfl 2 (by decide) (hts (.fieldLink RX0 18 "MossWall$Clauses" "leans" "[I") (List.mem_cons_of_mem _ (List.mem_append_left _ (List.mem_of_getElem? (i := 0) rfl)))) (fun _ h9 => h9) rfl dX0_setLean_9 ?_
    refine lv_iload_n hx hb dX0_setLean_12 rfl (lv_at hl 1 rfl) ?_
    refine lv_iload_n hx hb dX0_setLean_13 rfl (lv_at hl 2 rfl) ?_
    obtain ⟨a3_leans, h3, hM⟩ := mw_d1 hM
    refine mw_iast hx hb hK hP hD hS 1 0 rfl rfl h3 dX0_setLean_14 (fun H locs hP hD hS => ?_)
    have hP : va_P D vwCl [(t, .inr (0, [.ref t_kinds, .ref t_deeps, .ref t_leans, .ref t_moss, .int t_size])), (t_leans, .inl (cA, 6, .inl a3_leans))] H := hP
    have hD : va_D A [(t, .inr (0, [.ref t_kinds, .ref t_deeps, .ref t_leans, .ref t_moss, .int t_size])), (t_leans, .inl (cA, 6, .inl a3_leans))] := hD
    obtain rfl := mw_o1 hM
    subst hQ
    exact W.vret hx hb hr (fun t ht hW => ⟨⟨(), rfl, trivial, by rw [ht]; exact hP, hD⟩, hS.F ht⟩) hS.2.2 dX0_setLean_15
def mX0_addMoss (t_size : Int32) (c_t_moss : Nat → Int32) (p1 : Int32) (p2 : Int32) : Option ((Nat → Int32)) :=
  (mX0_has t_size p1).bind fun r1 => (if r1 = 0 then some c_t_moss else (mw_rd c_t_moss 6 p1).bind fun e3 => (mw_wr c_t_moss 6 p1 (mw_mx (mw_mn (e3 + p2) 99) 0)).bind fun a4_moss => some a4_moss)
abbrev rmX0_addMoss : Room := ({ frames := 1, cells := 0, slots := 0, locals := 21 } : Room)
set_option maxHeartbeats 4000000 in
set_option maxRecDepth 100000 in
theorem kX0_addMoss (l : Launch) (D : va_G) (cA : ClassId) (t t_kinds t_deeps t_leans t_moss : Nat) (sz : Nat) (t_size : Int32) (c_t_moss : Nat → Int32) (p1 : Int32) (p2 : Int32) (o_c_t_moss : Nat → Int32) (hM : mX0_addMoss t_size c_t_moss p1 p2 = some o_c_t_moss) : Met l yX0_addMoss wsX0_addMoss rmX0_addMoss (va_Pc [.ref t, .int p1, .int p2] (fun U => U.heap.size = sz ∧ va_P D vwCl [(t, .inr (0, [.ref t_kinds, .ref t_deeps, .ref t_leans, .ref t_moss, .int t_size])), (t_moss, .inl (cA, 6, .inl c_t_moss))] U.heap ∧ mw_ev D cA U ∧ va_D (fun _ => True) [(t, .inr (0, [.ref t_kinds, .ref t_deeps, .ref t_leans, .ref t_moss, .int t_size])), (t_moss, .inl (cA, 6, .inl c_t_moss))])) (va_Qv (fun (_ : Unit) => True) (fun (_ : Unit) w_ => va_P D vwCl [(t, .inr (0, [.ref t_kinds, .ref t_deeps, .ref t_leans, .ref t_moss, .int t_size])), (t_moss, .inl (cA, 6, .inl o_c_t_moss))] w_.heap ∧ va_D (va_A [(t, .inr (0, [.ref t_kinds, .ref t_deeps, .ref t_leans, .ref t_moss, .int t_size])), (t_moss, .inl (cA, 6, .inl c_t_moss))] sz) [(t, .inr (0, [.ref t_kinds, .ref t_deeps, .ref t_leans, .ref t_moss, .int t_size])), (t_moss, .inl (cA, 6, .inl o_c_t_moss))]) (va_A [(t, .inr (0, [.ref t_kinds, .ref t_deeps, .ref t_leans, .ref t_moss, .int t_size])), (t_moss, .inl (cA, 6, .inl c_t_moss))] sz)) 0 0 (va_A [(t, .inr (0, [.ref t_kinds, .ref t_deeps, .ref t_leans, .ref t_moss, .int t_size])), (t_moss, .inl (cA, 6, .inl c_t_moss))] sz) := by
  unfold mX0_addMoss at hM
  refine Met.ofW (cc := cX0_addMoss) (maxL := 3) (ret := none) (by decide) rfl ?_
  intro p e s m args below meth c s₁ B hml hv
  obtain ⟨rfl, hsz, hP, hE, hD0⟩ := hv
  have hx := B.exec
  have hb := B.bytes
  have hr := B.returns
  have hts := atoms_spec (ws := wsX0_addMoss) B.pre
  have hown : s.vm.findClass RX0 = some m.cls := findClass_of_methodNamed B.named
  have hlocks := B.notSynchronized
  have hK := hE.1
  subst hsz
  have hD := hD0.self (sz := s.heap.size)
  generalize hAe : va_A [(t, .inr (0, [.ref t_kinds, .ref t_deeps, .ref t_leans, .ref t_moss, .int t_size])), (t_moss, .inl (cA, 6, .inl c_t_moss))] s.heap.size = A at hD ⊢
  have hA : ∀ q : Nat, s.heap.size ≤ q → A q := fun q h => by rw [← hAe]; exact Or.inr h
  have hS : va_S A s.heap s.heap [] := va_S.rf
  have hl := lv_entry ([.ref t, .int p1, .int p2]) (n := 3) (Nat.le_of_ble_eq_true rfl)
  rw [lg_entry_eq]
  generalize (lg_sl ([.ref t, .int p1, .int p2]) ++ List.replicate (3 - (lg_sl ([.ref t, .int p1, .int p2])).length) Slot.unset).toArray = ls at hl ⊢
  have hl : lv_has ls 3 [(0, .ref t), (1, .int p1), (2, .int p2)] := hl
  refine mw_q (P := fun Q => W p l e (headSpec wsX0_addMoss rmX0_addMoss).room s m (([.ref t, .int p1, .int p2] : List Value).toArray) below meth c s.heap [] 0 0 Q (F0 m 0 ls [])) (fun Q hQ => ?_)
  refine lv_aload_n hx hb dX0_addMoss_0 rfl (lv_at hl 0 rfl) ?_
  refine lv_iload_n hx hb dX0_addMoss_1 rfl (lv_at hl 1 rfl) ?_
  obtain ⟨r1, h1, hM⟩ := mw_d1 hM
  have hPc := hP.sub (ws' := [(t, .inr (0, [.ref t_kinds, .ref t_deeps, .ref t_leans, .ref t_moss, .int t_size]))]) [0] rfl
  refine vp_callSi (va_Run.run (va_runV (As := [.int p1]) (rest := []) ⟨hx, hb, hml, hown, hts⟩ (kX0_has l D cA t t_kinds t_deeps t_leans t_moss t_size p1 r1 h1) (cwV 1 hts gX0_addMoss_X0_has rfl rfl rfl (by decide +kernel) ⟨Nat.le_of_ble_eq_true rfl, Nat.le_of_ble_eq_true rfl⟩) ⟨mw_fbR, va_recv hK hP (ci := 0) (q0 := 0) rfl rfl, mw_puR hPc hE⟩ rfl rfl hl.1 rfl (lv_room (Nat.le_of_ble_eq_true rfl)) dX0_addMoss_2 ⟨Nat.zero_le _, Nat.zero_le _⟩)) (fun v_ e_ => ?_)
  obtain ⟨e_, b1⟩ := e_
  subst v_
  refine lv_if_eq (tgt := 31) hx hb dX0_addMoss_5 (by decide) (fun q2 => ?_) (fun q2 => ?_)
  · replace hM := mw_t hM q2
    obtain rfl := mw_o1 hM
    subst hQ
    exact W.vret hx hb hr (fun t ht hW => ⟨⟨(), rfl, trivial, by rw [ht]; exact hP, hD⟩, hS.F ht⟩) hS.2.2 dX0_addMoss_31
  · replace hM := mw_f hM q2
    refine lv_aload_n hx hb dX0_addMoss_8 rfl (lv_at hl 0 rfl) ?_
    refine va_get (D := D) (ci := 0) (v := .ref t_moss) (C := RX0) (T := TX0) (N := 5) hx hb hts (fun _ h => List.mem_cons_of_mem _ (List.mem_append_right _ (h))) hown hK hP 0 rfl rfl 3 (by decide) (hts (.fieldLink RX0 21 "MossWall$Clauses" "moss" "[I") (List.mem_cons_of_mem _ (List.mem_append_left _ (List.mem_of_getElem? (i := 0) rfl)))) (fun _ h9 => h9) rfl dX0_addMoss_9 ?_
    refine lv_iload_n hx hb dX0_addMoss_12 rfl (lv_at hl 1 rfl) ?_
    refine lv_aload_n hx hb dX0_addMoss_13 rfl (lv_at hl 0 rfl) ?_
    refine va_get (D := D) (ci := 0) (v := .ref t_moss) (C := RX0) (T := TX0) (N := 5) hx hb hts (fun _ h => List.mem_cons_of_mem _ (List.mem_append_right _ (h))) hown hK hP 0 rfl rfl 3 (by decide) (hts (.fieldLink RX0 21 "MossWall$Clauses" "moss" "[I") (List.mem_cons_of_mem _ (List.mem_append_left _ (List.mem_of_getElem? (i := 0) rfl)))) (fun _ h9 => h9) rfl dX0_addMoss_14 ?_
    refine lv_iload_n hx hb dX0_addMoss_17 rfl (lv_at hl 1 rfl) ?_
    obtain ⟨e3, h3, hM⟩ := mw_d1 hM
    refine mw_iald hx hb hK hP 1 0 rfl rfl h3 dX0_addMoss_18 ?_
    refine lv_iload_n hx hb dX0_addMoss_19 rfl (lv_at hl 2 rfl) ?_
    refine lv_iadd hx hb dX0_addMoss_20 ?_
    refine lv_bipush (v := 99) hx hb dX0_addMoss_21 (by decide) ?_
    refine va_mmin hx hb (hml.trans hl.1.symm) hown (hts (.methodLink RX0 32 Lib.Math.min.name) (List.mem_cons_of_mem _ (List.mem_append_left _ (List.mem_of_getElem? (i := 1) rfl)))) (hts (.static Lib.Math.min.name) (List.mem_cons_of_mem _ (List.mem_append_left _ (List.mem_of_getElem? (i := 2) rfl)))) (hts (.initialized "java/lang/Math") (List.mem_cons_of_mem _ (List.mem_append_left _ (List.mem_of_getElem? (i := 3) rfl)))) (hts (.code Lib.Math.min.name Lib.Math.min.code 2 (some .int)) (List.mem_cons_of_mem _ (List.mem_append_left _ (List.mem_of_getElem? (i := 4) rfl)))) (Nat.le_of_ble_eq_true rfl) (Nat.le_of_ble_eq_true rfl) (Nat.zero_le _) (Nat.zero_le _) dX0_addMoss_23 ?_
    refine lv_iconst (v := 0) hx hb dX0_addMoss_26 (by decide) ?_
    refine va_mmax hx hb (hml.trans hl.1.symm) hown (hts (.methodLink RX0 38 Lib.Math.max.name) (List.mem_cons_of_mem _ (List.mem_append_left _ (List.mem_of_getElem? (i := 5) rfl)))) (hts (.static Lib.Math.max.name) (List.mem_cons_of_mem _ (List.mem_append_left _ (List.mem_of_getElem? (i := 6) rfl)))) (hts (.initialized "java/lang/Math") (List.mem_cons_of_mem _ (List.mem_append_left _ (List.mem_of_getElem? (i := 3) rfl)))) (hts (.code Lib.Math.max.name Lib.Math.max.code 2 (some .int)) (List.mem_cons_of_mem _ (List.mem_append_left _ (List.mem_of_getElem? (i := 7) rfl)))) (Nat.le_of_ble_eq_true rfl) (Nat.le_of_ble_eq_true rfl) (Nat.zero_le _) (Nat.zero_le _) dX0_addMoss_27 ?_
    obtain ⟨a4_moss, h4, hM⟩ := mw_d1 hM
    refine mw_iast hx hb hK hP hD hS 1 0 rfl rfl h4 dX0_addMoss_30 (fun H locs hP hD hS => ?_)
    have hP : va_P D vwCl [(t, .inr (0, [.ref t_kinds, .ref t_deeps, .ref t_leans, .ref t_moss, .int t_size])), (t_moss, .inl (cA, 6, .inl a4_moss))] H := hP
    have hD : va_D A [(t, .inr (0, [.ref t_kinds, .ref t_deeps, .ref t_leans, .ref t_moss, .int t_size])), (t_moss, .inl (cA, 6, .inl a4_moss))] := hD
    obtain rfl := mw_o1 hM
    subst hQ
    exact W.vret hx hb hr (fun t ht hW => ⟨⟨(), rfl, trivial, by rw [ht]; exact hP, hD⟩, hS.F ht⟩) hS.2.2 dX0_addMoss_31
def mX0_copyFrom (t_size : Int32) (c_t_kinds : Nat → Int32) (c_t_deeps : Nat → Int32) (c_t_leans : Nat → Int32) (c_t_moss : Nat → Int32) (p1_size : Int32) (c_p1_kinds : Nat → Int32) (c_p1_deeps : Nat → Int32) (c_p1_leans : Nat → Int32) (c_p1_moss : Nat → Int32) : Option (Int32 × (Nat → Int32) × (Nat → Int32) × (Nat → Int32) × (Nat → Int32)) :=
  some (p1_size, va_cpy c_p1_kinds c_t_kinds 0 0 6, va_cpy c_p1_deeps c_t_deeps 0 0 6, va_cpy c_p1_leans c_t_leans 0 0 6, va_cpy c_p1_moss c_t_moss 0 0 6)
abbrev rmX0_copyFrom : Room := ({ frames := 1, cells := 0, slots := 0, locals := 18 } : Room)
set_option maxHeartbeats 4000000 in
set_option maxRecDepth 100000 in
theorem kX0_copyFrom (l : Launch) (D : va_G) (cA : ClassId) (t p1 t_kinds t_deeps t_leans t_moss p1_kinds p1_deeps p1_leans p1_moss : Nat) (sz : Nat) (t_size : Int32) (c_t_kinds : Nat → Int32) (c_t_deeps : Nat → Int32) (c_t_leans : Nat → Int32) (c_t_moss : Nat → Int32) (p1_size : Int32) (c_p1_kinds : Nat → Int32) (c_p1_deeps : Nat → Int32) (c_p1_leans : Nat → Int32) (c_p1_moss : Nat → Int32) (o_t_size : Int32) (o_c_t_kinds : Nat → Int32) (o_c_t_deeps : Nat → Int32) (o_c_t_leans : Nat → Int32) (o_c_t_moss : Nat → Int32) (hM : mX0_copyFrom t_size c_t_kinds c_t_deeps c_t_leans c_t_moss p1_size c_p1_kinds c_p1_deeps c_p1_leans c_p1_moss = some (o_t_size, o_c_t_kinds, o_c_t_deeps, o_c_t_leans, o_c_t_moss)) : Met l yX0_copyFrom wsX0_copyFrom rmX0_copyFrom (va_Pc [.ref t, .ref p1] (fun U => U.heap.size = sz ∧ va_P D vwCl [(t, .inr (0, [.ref t_kinds, .ref t_deeps, .ref t_leans, .ref t_moss, .int t_size])), (t_kinds, .inl (cA, 6, .inl c_t_kinds)), (t_deeps, .inl (cA, 6, .inl c_t_deeps)), (t_leans, .inl (cA, 6, .inl c_t_leans)), (t_moss, .inl (cA, 6, .inl c_t_moss)), (p1, .inr (0, [.ref p1_kinds, .ref p1_deeps, .ref p1_leans, .ref p1_moss, .int p1_size])), (p1_kinds, .inl (cA, 6, .inl c_p1_kinds)), (p1_deeps, .inl (cA, 6, .inl c_p1_deeps)), (p1_leans, .inl (cA, 6, .inl c_p1_leans)), (p1_moss, .inl (cA, 6, .inl c_p1_moss))] U.heap ∧ mw_ev D cA U ∧ va_D (fun _ => True) [(t, .inr (0, [.ref t_kinds, .ref t_deeps, .ref t_leans, .ref t_moss, .int t_size])), (t_kinds, .inl (cA, 6, .inl c_t_kinds)), (t_deeps, .inl (cA, 6, .inl c_t_deeps)), (t_leans, .inl (cA, 6, .inl c_t_leans)), (t_moss, .inl (cA, 6, .inl c_t_moss)), (p1, .inr (0, [.ref p1_kinds, .ref p1_deeps, .ref p1_leans, .ref p1_moss, .int p1_size])), (p1_kinds, .inl (cA, 6, .inl c_p1_kinds)), (p1_deeps, .inl (cA, 6, .inl c_p1_deeps)), (p1_leans, .inl (cA, 6, .inl c_p1_leans)), (p1_moss, .inl (cA, 6, .inl c_p1_moss))])) (va_Qv (fun (_ : Unit) => True) (fun (_ : Unit) w_ => va_P D vwCl [(t, .inr (0, [.ref t_kinds, .ref t_deeps, .ref t_leans, .ref t_moss, .int o_t_size])), (t_kinds, .inl (cA, 6, .inl o_c_t_kinds)), (t_deeps, .inl (cA, 6, .inl o_c_t_deeps)), (t_leans, .inl (cA, 6, .inl o_c_t_leans)), (t_moss, .inl (cA, 6, .inl o_c_t_moss)), (p1, .inr (0, [.ref p1_kinds, .ref p1_deeps, .ref p1_leans, .ref p1_moss, .int p1_size])), (p1_kinds, .inl (cA, 6, .inl c_p1_kinds)), (p1_deeps, .inl (cA, 6, .inl c_p1_deeps)), (p1_leans, .inl (cA, 6, .inl c_p1_leans)), (p1_moss, .inl (cA, 6, .inl c_p1_moss))] w_.heap ∧ va_D (va_A [(t, .inr (0, [.ref t_kinds, .ref t_deeps, .ref t_leans, .ref t_moss, .int t_size])), (t_kinds, .inl (cA, 6, .inl c_t_kinds)), (t_deeps, .inl (cA, 6, .inl c_t_deeps)), (t_leans, .inl (cA, 6, .inl c_t_leans)), (t_moss, .inl (cA, 6, .inl c_t_moss)), (p1, .inr (0, [.ref p1_kinds, .ref p1_deeps, .ref p1_leans, .ref p1_moss, .int p1_size])), (p1_kinds, .inl (cA, 6, .inl c_p1_kinds)), (p1_deeps, .inl (cA, 6, .inl c_p1_deeps)), (p1_leans, .inl (cA, 6, .inl c_p1_leans)), (p1_moss, .inl (cA, 6, .inl c_p1_moss))] sz) [(t, .inr (0, [.ref t_kinds, .ref t_deeps, .ref t_leans, .ref t_moss, .int o_t_size])), (t_kinds, .inl (cA, 6, .inl o_c_t_kinds)), (t_deeps, .inl (cA, 6, .inl o_c_t_deeps)), (t_leans, .inl (cA, 6, .inl o_c_t_leans)), (t_moss, .inl (cA, 6, .inl o_c_t_moss)), (p1, .inr (0, [.ref p1_kinds, .ref p1_deeps, .ref p1_leans, .ref p1_moss, .int p1_size])), (p1_kinds, .inl (cA, 6, .inl c_p1_kinds)), (p1_deeps, .inl (cA, 6, .inl c_p1_deeps)), (p1_leans, .inl (cA, 6, .inl c_p1_leans)), (p1_moss, .inl (cA, 6, .inl c_p1_moss))]) (va_A [(t, .inr (0, [.ref t_kinds, .ref t_deeps, .ref t_leans, .ref t_moss, .int t_size])), (t_kinds, .inl (cA, 6, .inl c_t_kinds)), (t_deeps, .inl (cA, 6, .inl c_t_deeps)), (t_leans, .inl (cA, 6, .inl c_t_leans)), (t_moss, .inl (cA, 6, .inl c_t_moss)), (p1, .inr (0, [.ref p1_kinds, .ref p1_deeps, .ref p1_leans, .ref p1_moss, .int p1_size])), (p1_kinds, .inl (cA, 6, .inl c_p1_kinds)), (p1_deeps, .inl (cA, 6, .inl c_p1_deeps)), (p1_leans, .inl (cA, 6, .inl c_p1_leans)), (p1_moss, .inl (cA, 6, .inl c_p1_moss))] sz)) 0 0 (va_A [(t, .inr (0, [.ref t_kinds, .ref t_deeps, .ref t_leans, .ref t_moss, .int t_size])), (t_kinds, .inl (cA, 6, .inl c_t_kinds)), (t_deeps, .inl (cA, 6, .inl c_t_deeps)), (t_leans, .inl (cA, 6, .inl c_t_leans)), (t_moss, .inl (cA, 6, .inl c_t_moss)), (p1, .inr (0, [.ref p1_kinds, .ref p1_deeps, .ref p1_leans, .ref p1_moss, .int p1_size])), (p1_kinds, .inl (cA, 6, .inl c_p1_kinds)), (p1_deeps, .inl (cA, 6, .inl c_p1_deeps)), (p1_leans, .inl (cA, 6, .inl c_p1_leans)), (p1_moss, .inl (cA, 6, .inl c_p1_moss))] sz) := by
  unfold mX0_copyFrom at hM
  refine Met.ofW (cc := cX0_copyFrom) (maxL := 2) (ret := none) (by decide) rfl ?_
  intro p e s m args below meth c s₁ B hml hv
  obtain ⟨rfl, hsz, hP, hE, hD0⟩ := hv
  have hx := B.exec
  have hb := B.bytes
  have hr := B.returns
  have hts := atoms_spec (ws := wsX0_copyFrom) B.pre
  have hown : s.vm.findClass RX0 = some m.cls := findClass_of_methodNamed B.named
  have hlocks := B.notSynchronized
  have hK := hE.1
  subst hsz
  have hD := hD0.self (sz := s.heap.size)
  generalize hAe : va_A [(t, .inr (0, [.ref t_kinds, .ref t_deeps, .ref t_leans, .ref t_moss, .int t_size])), (t_kinds, .inl (cA, 6, .inl c_t_kinds)), (t_deeps, .inl (cA, 6, .inl c_t_deeps)), (t_leans, .inl (cA, 6, .inl c_t_leans)), (t_moss, .inl (cA, 6, .inl c_t_moss)), (p1, .inr (0, [.ref p1_kinds, .ref p1_deeps, .ref p1_leans, .ref p1_moss, .int p1_size])), (p1_kinds, .inl (cA, 6, .inl c_p1_kinds)), (p1_deeps, .inl (cA, 6, .inl c_p1_deeps)), (p1_leans, .inl (cA, 6, .inl c_p1_leans)), (p1_moss, .inl (cA, 6, .inl c_p1_moss))] s.heap.size = A at hD ⊢
  have hA : ∀ q : Nat, s.heap.size ≤ q → A q := fun q h => by rw [← hAe]; exact Or.inr h
  have hS : va_S A s.heap s.heap [] := va_S.rf
  have hl := lv_entry ([.ref t, .ref p1]) (n := 2) (Nat.le_of_ble_eq_true rfl)
  rw [lg_entry_eq]
  generalize (lg_sl ([.ref t, .ref p1]) ++ List.replicate (2 - (lg_sl ([.ref t, .ref p1])).length) Slot.unset).toArray = ls at hl ⊢
  have hl : lv_has ls 2 [(0, .ref t), (1, .ref p1)] := hl
  refine mw_q (P := fun Q => W p l e (headSpec wsX0_copyFrom rmX0_copyFrom).room s m (([.ref t, .ref p1] : List Value).toArray) below meth c s.heap [] 0 0 Q (F0 m 0 ls [])) (fun Q hQ => ?_)
  refine lv_aload_n hx hb dX0_copyFrom_0 rfl (lv_at hl 1 rfl) ?_
  refine lv_ifnonnull (tgt := 5) hx hb dX0_copyFrom_1 (by decide) ?_
  refine lv_aload_n hx hb dX0_copyFrom_5 rfl (lv_at hl 0 rfl) ?_
  refine lv_aload_n hx hb dX0_copyFrom_6 rfl (lv_at hl 1 rfl) ?_
  refine va_get (D := D) (ci := 0) (v := .int p1_size) (C := RX0) (T := TX0) (N := 5) hx hb hts (fun _ h => List.mem_cons_of_mem _ (List.mem_append_right _ (h))) hown hK hP 5 rfl rfl 4 (by decide) (hts (.fieldLink RX0 24 "MossWall$Clauses" "size" "I") (List.mem_cons_of_mem _ (List.mem_append_left _ (List.mem_of_getElem? (i := 0) rfl)))) (fun _ h9 => h9) rfl dX0_copyFrom_7 ?_
  refine va_put (D := D) (ci := 0) (v := .int p1_size) (ty := .int) (C := RX0) (T := TX0) (N := 5) hx hb hts (fun _ h => List.mem_cons_of_mem _ (List.mem_append_right _ (h))) tyX0 tyX0_ok nmX0 hown hK hP hD hS 0 rfl rfl 4 (by decide) (hts (.fieldLink RX0 24 "MossWall$Clauses" "size" "I") (List.mem_cons_of_mem _ (List.mem_append_left _ (List.mem_of_getElem? (i := 0) rfl)))) (fun _ h9 => h9) rfl (by decide +kernel) rfl rfl (Nat.le_of_ble_eq_true rfl) dX0_copyFrom_10 (fun H locs hP hD hS => ?_)
  have hP : va_P D vwCl [(t, .inr (0, [.ref t_kinds, .ref t_deeps, .ref t_leans, .ref t_moss, .int p1_size])), (t_kinds, .inl (cA, 6, .inl c_t_kinds)), (t_deeps, .inl (cA, 6, .inl c_t_deeps)), (t_leans, .inl (cA, 6, .inl c_t_leans)), (t_moss, .inl (cA, 6, .inl c_t_moss)), (p1, .inr (0, [.ref p1_kinds, .ref p1_deeps, .ref p1_leans, .ref p1_moss, .int p1_size])), (p1_kinds, .inl (cA, 6, .inl c_p1_kinds)), (p1_deeps, .inl (cA, 6, .inl c_p1_deeps)), (p1_leans, .inl (cA, 6, .inl c_p1_leans)), (p1_moss, .inl (cA, 6, .inl c_p1_moss))] H := hP
  have hD : va_D A [(t, .inr (0, [.ref t_kinds, .ref t_deeps, .ref t_leans, .ref t_moss, .int p1_size])), (t_kinds, .inl (cA, 6, .inl c_t_kinds)), (t_deeps, .inl (cA, 6, .inl c_t_deeps)), (t_leans, .inl (cA, 6, .inl c_t_leans)), (t_moss, .inl (cA, 6, .inl c_t_moss)), (p1, .inr (0, [.ref p1_kinds, .ref p1_deeps, .ref p1_leans, .ref p1_moss, .int p1_size])), (p1_kinds, .inl (cA, 6, .inl c_p1_kinds)), (p1_deeps, .inl (cA, 6, .inl c_p1_deeps)), (p1_leans, .inl (cA, 6, .inl c_p1_leans)), (p1_moss, .inl (cA, 6, .inl c_p1_moss))] := hD
  refine lv_aload_n hx hb dX0_copyFrom_13 rfl (lv_at hl 1 rfl) ?_
  refine va_get (D := D) (ci := 0) (v := .ref p1_kinds) (C := RX0) (T := TX0) (N := 5) hx hb hts (fun _ h => List.mem_cons_of_mem _ (List.mem_append_right _ (h))) hown hK hP 5 rfl rfl 0 (by decide) (hts (.fieldLink RX0 9 "MossWall$Clauses" "kinds" "[I") (List.mem_cons_of_mem _ (List.mem_append_left _ (List.mem_of_getElem? (i := 1) rfl)))) (fun _ h9 => h9) rfl dX0_copyFrom_14 ?_
  refine lv_iconst (v := 0) hx hb dX0_copyFrom_17 (by decide) ?_
  refine lv_aload_n hx hb dX0_copyFrom_18 rfl (lv_at hl 0 rfl) ?_
  refine va_get (D := D) (ci := 0) (v := .ref t_kinds) (C := RX0) (T := TX0) (N := 5) hx hb hts (fun _ h => List.mem_cons_of_mem _ (List.mem_append_right _ (h))) hown hK hP 0 rfl rfl 0 (by decide) (hts (.fieldLink RX0 9 "MossWall$Clauses" "kinds" "[I") (List.mem_cons_of_mem _ (List.mem_append_left _ (List.mem_of_getElem? (i := 1) rfl)))) (fun _ h9 => h9) rfl dX0_copyFrom_19 ?_
  refine lv_iconst (v := 0) hx hb dX0_copyFrom_22 (by decide) ?_
  refine lv_bipush (v := 6) hx hb dX0_copyFrom_23 (by decide) ?_
  refine va_copyi (ty := .int) hx hb (hml.trans hl.1.symm) hown (hts (.methodLink RX0 41 arraycopyName) (List.mem_cons_of_mem _ (List.mem_append_left _ (List.mem_of_getElem? (i := 2) rfl)))) (hts (.native arraycopyName) (List.mem_cons_of_mem _ (List.mem_append_left _ (List.mem_of_getElem? (i := 3) rfl)))) (hts (.static arraycopyName) (List.mem_cons_of_mem _ (List.mem_append_left _ (List.mem_of_getElem? (i := 4) rfl)))) (hts (.initialized "java/lang/System") (List.mem_cons_of_mem _ (List.mem_append_left _ (List.mem_of_getElem? (i := 5) rfl)))) hK hP hD hS 6 1 0 0 rfl rfl rfl rfl rfl (by decide) (by decide) (by decide) (by decide) (by decide) (fun _ _ => rfl) (Nat.le_of_ble_eq_true rfl) (Nat.le_of_ble_eq_true rfl) dX0_copyFrom_25 (fun H locs hP hD hS => ?_)
  have hP : va_P D vwCl [(t, .inr (0, [.ref t_kinds, .ref t_deeps, .ref t_leans, .ref t_moss, .int p1_size])), (t_kinds, .inl (cA, 6, .inl (va_cpy c_p1_kinds c_t_kinds 0 0 6))), (t_deeps, .inl (cA, 6, .inl c_t_deeps)), (t_leans, .inl (cA, 6, .inl c_t_leans)), (t_moss, .inl (cA, 6, .inl c_t_moss)), (p1, .inr (0, [.ref p1_kinds, .ref p1_deeps, .ref p1_leans, .ref p1_moss, .int p1_size])), (p1_kinds, .inl (cA, 6, .inl c_p1_kinds)), (p1_deeps, .inl (cA, 6, .inl c_p1_deeps)), (p1_leans, .inl (cA, 6, .inl c_p1_leans)), (p1_moss, .inl (cA, 6, .inl c_p1_moss))] H := hP
  have hD : va_D A [(t, .inr (0, [.ref t_kinds, .ref t_deeps, .ref t_leans, .ref t_moss, .int p1_size])), (t_kinds, .inl (cA, 6, .inl (va_cpy c_p1_kinds c_t_kinds 0 0 6))), (t_deeps, .inl (cA, 6, .inl c_t_deeps)), (t_leans, .inl (cA, 6, .inl c_t_leans)), (t_moss, .inl (cA, 6, .inl c_t_moss)), (p1, .inr (0, [.ref p1_kinds, .ref p1_deeps, .ref p1_leans, .ref p1_moss, .int p1_size])), (p1_kinds, .inl (cA, 6, .inl c_p1_kinds)), (p1_deeps, .inl (cA, 6, .inl c_p1_deeps)), (p1_leans, .inl (cA, 6, .inl c_p1_leans)), (p1_moss, .inl (cA, 6, .inl c_p1_moss))] := hD
  refine lv_aload_n hx hb dX0_copyFrom_28 rfl (lv_at hl 1 rfl) ?_
  refine va_get (D := D) (ci := 0) (v := .ref p1_deeps) (C := RX0) (T := TX0) (N := 5) hx hb hts (fun _ h => List.mem_cons_of_mem _ (List.mem_append_right _ (h))) hown hK hP 5 rfl rfl 1 (by decide) (hts (.fieldLink RX0 15 "MossWall$Clauses" "deeps" "[I") (List.mem_cons_of_mem _ (List.mem_append_left _ (List.mem_of_getElem? (i := 6) rfl)))) (fun _ h9 => h9) rfl dX0_copyFrom_29 ?_
  refine lv_iconst (v := 0) hx hb dX0_copyFrom_32 (by decide) ?_
  refine lv_aload_n hx hb dX0_copyFrom_33 rfl (lv_at hl 0 rfl) ?_
  refine va_get (D := D) (ci := 0) (v := .ref t_deeps) (C := RX0) (T := TX0) (N := 5) hx hb hts (fun _ h => List.mem_cons_of_mem _ (List.mem_append_right _ (h))) hown hK hP 0 rfl rfl 1 (by decide) (hts (.fieldLink RX0 15 "MossWall$Clauses" "deeps" "[I") (List.mem_cons_of_mem _ (List.mem_append_left _ (List.mem_of_getElem? (i := 6) rfl)))) (fun _ h9 => h9) rfl dX0_copyFrom_34 ?_
  refine lv_iconst (v := 0) hx hb dX0_copyFrom_37 (by decide) ?_
  refine lv_bipush (v := 6) hx hb dX0_copyFrom_38 (by decide) ?_
  refine va_copyi (ty := .int) hx hb (hml.trans hl.1.symm) hown (hts (.methodLink RX0 41 arraycopyName) (List.mem_cons_of_mem _ (List.mem_append_left _ (List.mem_of_getElem? (i := 2) rfl)))) (hts (.native arraycopyName) (List.mem_cons_of_mem _ (List.mem_append_left _ (List.mem_of_getElem? (i := 3) rfl)))) (hts (.static arraycopyName) (List.mem_cons_of_mem _ (List.mem_append_left _ (List.mem_of_getElem? (i := 4) rfl)))) (hts (.initialized "java/lang/System") (List.mem_cons_of_mem _ (List.mem_append_left _ (List.mem_of_getElem? (i := 5) rfl)))) hK hP hD hS 7 2 0 0 rfl rfl rfl rfl rfl (by decide) (by decide) (by decide) (by decide) (by decide) (fun _ _ => rfl) (Nat.le_of_ble_eq_true rfl) (Nat.le_of_ble_eq_true rfl) dX0_copyFrom_40 (fun H locs hP hD hS => ?_)
  have hP : va_P D vwCl [(t, .inr (0, [.ref t_kinds, .ref t_deeps, .ref t_leans, .ref t_moss, .int p1_size])), (t_kinds, .inl (cA, 6, .inl (va_cpy c_p1_kinds c_t_kinds 0 0 6))), (t_deeps, .inl (cA, 6, .inl (va_cpy c_p1_deeps c_t_deeps 0 0 6))), (t_leans, .inl (cA, 6, .inl c_t_leans)), (t_moss, .inl (cA, 6, .inl c_t_moss)), (p1, .inr (0, [.ref p1_kinds, .ref p1_deeps, .ref p1_leans, .ref p1_moss, .int p1_size])), (p1_kinds, .inl (cA, 6, .inl c_p1_kinds)), (p1_deeps, .inl (cA, 6, .inl c_p1_deeps)), (p1_leans, .inl (cA, 6, .inl c_p1_leans)), (p1_moss, .inl (cA, 6, .inl c_p1_moss))] H := hP
  have hD : va_D A [(t, .inr (0, [.ref t_kinds, .ref t_deeps, .ref t_leans, .ref t_moss, .int p1_size])), (t_kinds, .inl (cA, 6, .inl (va_cpy c_p1_kinds c_t_kinds 0 0 6))), (t_deeps, .inl (cA, 6, .inl (va_cpy c_p1_deeps c_t_deeps 0 0 6))), (t_leans, .inl (cA, 6, .inl c_t_leans)), (t_moss, .inl (cA, 6, .inl c_t_moss)), (p1, .inr (0, [.ref p1_kinds, .ref p1_deeps, .ref p1_leans, .ref p1_moss, .int p1_size])), (p1_kinds, .inl (cA, 6, .inl c_p1_kinds)), (p1_deeps, .inl (cA, 6, .inl c_p1_deeps)), (p1_leans, .inl (cA, 6, .inl c_p1_leans)), (p1_moss, .inl (cA, 6, .inl c_p1_moss))] := hD
  refine lv_aload_n hx hb dX0_copyFrom_43 rfl (lv_at hl 1 rfl) ?_
  refine va_get (D := D) (ci := 0) (v := .ref p1_leans) (C := RX0) (T := TX0) (N := 5) hx hb hts (fun _ h => List.mem_cons_of_mem _ (List.mem_append_right _ (h))) hown hK hP 5 rfl rfl 2 (by decide) (hts (.fieldLink RX0 18 "MossWall$Clauses" "leans" "[I") (List.mem_cons_of_mem _ (List.mem_append_left _ (List.mem_of_getElem? (i := 7) rfl)))) (fun _ h9 => h9) rfl dX0_copyFrom_44 ?_
  refine lv_iconst (v := 0) hx hb dX0_copyFrom_47 (by decide) ?_
  refine lv_aload_n hx hb dX0_copyFrom_48 rfl (lv_at hl 0 rfl) ?_
  refine va_get (D := D) (ci := 0) (v := .ref t_leans) (C := RX0) (T := TX0) (N := 5) hx hb hts (fun _ h => List.mem_cons_of_mem _ (List.mem_append_right _ (h))) hown hK hP 0 rfl rfl 2 (by decide) (hts (.fieldLink RX0 18 "MossWall$Clauses" "leans" "[I") (List.mem_cons_of_mem _ (List.mem_append_left _ (List.mem_of_getElem? (i := 7) rfl)))) (fun _ h9 => h9) rfl dX0_copyFrom_49 ?_
  refine lv_iconst (v := 0) hx hb dX0_copyFrom_52 (by decide) ?_
  refine lv_bipush (v := 6) hx hb dX0_copyFrom_53 (by decide) ?_
  refine va_copyi (ty := .int) hx hb (hml.trans hl.1.symm) hown (hts (.methodLink RX0 41 arraycopyName) (List.mem_cons_of_mem _ (List.mem_append_left _ (List.mem_of_getElem? (i := 2) rfl)))) (hts (.native arraycopyName) (List.mem_cons_of_mem _ (List.mem_append_left _ (List.mem_of_getElem? (i := 3) rfl)))) (hts (.static arraycopyName) (List.mem_cons_of_mem _ (List.mem_append_left _ (List.mem_of_getElem? (i := 4) rfl)))) (hts (.initialized "java/lang/System") (List.mem_cons_of_mem _ (List.mem_append_left _ (List.mem_of_getElem? (i := 5) rfl)))) hK hP hD hS 8 3 0 0 rfl rfl rfl rfl rfl (by decide) (by decide) (by decide) (by decide) (by decide) (fun _ _ => rfl) (Nat.le_of_ble_eq_true rfl) (Nat.le_of_ble_eq_true rfl) dX0_copyFrom_55 (fun H locs hP hD hS => ?_)
  have hP : va_P D vwCl [(t, .inr (0, [.ref t_kinds, .ref t_deeps, .ref t_leans, .ref t_moss, .int p1_size])), (t_kinds, .inl (cA, 6, .inl (va_cpy c_p1_kinds c_t_kinds 0 0 6))), (t_deeps, .inl (cA, 6, .inl (va_cpy c_p1_deeps c_t_deeps 0 0 6))), (t_leans, .inl (cA, 6, .inl (va_cpy c_p1_leans c_t_leans 0 0 6))), (t_moss, .inl (cA, 6, .inl c_t_moss)), (p1, .inr (0, [.ref p1_kinds, .ref p1_deeps, .ref p1_leans, .ref p1_moss, .int p1_size])), (p1_kinds, .inl (cA, 6, .inl c_p1_kinds)), (p1_deeps, .inl (cA, 6, .inl c_p1_deeps)), (p1_leans, .inl (cA, 6, .inl c_p1_leans)), (p1_moss, .inl (cA, 6, .inl c_p1_moss))] H := hP
  have hD : va_D A [(t, .inr (0, [.ref t_kinds, .ref t_deeps, .ref t_leans, .ref t_moss, .int p1_size])), (t_kinds, .inl (cA, 6, .inl (va_cpy c_p1_kinds c_t_kinds 0 0 6))), (t_deeps, .inl (cA, 6, .inl (va_cpy c_p1_deeps c_t_deeps 0 0 6))), (t_leans, .inl (cA, 6, .inl (va_cpy c_p1_leans c_t_leans 0 0 6))), (t_moss, .inl (cA, 6, .inl c_t_moss)), (p1, .inr (0, [.ref p1_kinds, .ref p1_deeps, .ref p1_leans, .ref p1_moss, .int p1_size])), (p1_kinds, .inl (cA, 6, .inl c_p1_kinds)), (p1_deeps, .inl (cA, 6, .inl c_p1_deeps)), (p1_leans, .inl (cA, 6, .inl c_p1_leans)), (p1_moss, .inl (cA, 6, .inl c_p1_moss))] := hD
  refine lv_aload_n hx hb dX0_copyFrom_58 rfl (lv_at hl 1 rfl) ?_
  refine va_get (D := D) (ci := 0) (v := .ref p1_moss) (C := RX0) (T := TX0) (N := 5) hx hb hts (fun _ h => List.mem_cons_of_mem _ (List.mem_append_right _ (h))) hown hK hP 5 rfl rfl 3 (by decide) (hts (.fieldLink RX0 21 "MossWall$Clauses" "moss" "[I") (List.mem_cons_of_mem _ (List.mem_append_left _ (List.mem_of_getElem? (i := 8) rfl)))) (fun _ h9 => h9) rfl dX0_copyFrom_59 ?_
  refine lv_iconst (v := 0) hx hb dX0_copyFrom_62 (by decide) ?_
  refine lv_aload_n hx hb dX0_copyFrom_63 rfl (lv_at hl 0 rfl) ?_
  refine va_get (D := D) (ci := 0) (v := .ref t_moss) (C := RX0) (T := TX0) (N := 5) hx hb hts (fun _ h => List.mem_cons_of_mem _ (List.mem_append_right _ (h))) hown hK hP 0 rfl rfl 3 (by decide) (hts (.fieldLink RX0 21 "MossWall$Clauses" "moss" "[I") (List.mem_cons_of_mem _ (List.mem_append_left _ (List.mem_of_getElem? (i := 8) rfl)))) (fun _ h9 => h9) rfl dX0_copyFrom_64 ?_
  refine lv_iconst (v := 0) hx hb dX0_copyFrom_67 (by decide) ?_
  refine lv_bipush (v := 6) hx hb dX0_copyFrom_68 (by decide) ?_
  refine va_copyi (ty := .int) hx hb (hml.trans hl.1.symm) hown (hts (.methodLink RX0 41 arraycopyName) (List.mem_cons_of_mem _ (List.mem_append_left _ (List.mem_of_getElem? (i := 2) rfl)))) (hts (.native arraycopyName) (List.mem_cons_of_mem _ (List.mem_append_left _ (List.mem_of_getElem? (i := 3) rfl)))) (hts (.static arraycopyName) (List.mem_cons_of_mem _ (List.mem_append_left _ (List.mem_of_getElem? (i := 4) rfl)))) (hts (.initialized "java/lang/System") (List.mem_cons_of_mem _ (List.mem_append_left _ (List.mem_of_getElem? (i := 5) rfl)))) hK hP hD hS 9 4 0 0 rfl rfl rfl rfl rfl (by decide) (by decide) (by decide) (by decide) (by decide) (fun _ _ => rfl) (Nat.le_of_ble_eq_true rfl) (Nat.le_of_ble_eq_true rfl) dX0_copyFrom_70 (fun H locs hP hD hS => ?_)
  have hP : va_P D vwCl [(t, .inr (0, [.ref t_kinds, .ref t_deeps, .ref t_leans, .ref t_moss, .int p1_size])), (t_kinds, .inl (cA, 6, .inl (va_cpy c_p1_kinds c_t_kinds 0 0 6))), (t_deeps, .inl (cA, 6, .inl (va_cpy c_p1_deeps c_t_deeps 0 0 6))), (t_leans, .inl (cA, 6, .inl (va_cpy c_p1_leans c_t_leans 0 0 6))), (t_moss, .inl (cA, 6, .inl (va_cpy c_p1_moss c_t_moss 0 0 6))), (p1, .inr (0, [.ref p1_kinds, .ref p1_deeps, .ref p1_leans, .ref p1_moss, .int p1_size])), (p1_kinds, .inl (cA, 6, .inl c_p1_kinds)), (p1_deeps, .inl (cA, 6, .inl c_p1_deeps)), (p1_leans, .inl (cA, 6, .inl c_p1_leans)), (p1_moss, .inl (cA, 6, .inl c_p1_moss))] H := hP
  have hD : va_D A [(t, .inr (0, [.ref t_kinds, .ref t_deeps, .ref t_leans, .ref t_moss, .int p1_size])), (t_kinds, .inl (cA, 6, .inl (va_cpy c_p1_kinds c_t_kinds 0 0 6))), (t_deeps, .inl (cA, 6, .inl (va_cpy c_p1_deeps c_t_deeps 0 0 6))), (t_leans, .inl (cA, 6, .inl (va_cpy c_p1_leans c_t_leans 0 0 6))), (t_moss, .inl (cA, 6, .inl (va_cpy c_p1_moss c_t_moss 0 0 6))), (p1, .inr (0, [.ref p1_kinds, .ref p1_deeps, .ref p1_leans, .ref p1_moss, .int p1_size])), (p1_kinds, .inl (cA, 6, .inl c_p1_kinds)), (p1_deeps, .inl (cA, 6, .inl c_p1_deeps)), (p1_leans, .inl (cA, 6, .inl c_p1_leans)), (p1_moss, .inl (cA, 6, .inl c_p1_moss))] := hD
  obtain ⟨rfl, rfl, rfl, rfl, rfl⟩ := mw_o5 hM
  subst hQ
  exact W.vret hx hb hr (fun t ht hW => ⟨⟨(), rfl, trivial, by rw [ht]; exact hP, hD⟩, hS.F ht⟩) hS.2.2 dX0_copyFrom_73
def mX0_copyMoss (c_t_moss : Nat → Int32) (c_p1_moss : Nat → Int32) : Option ((Nat → Int32)) :=
  some (va_cpy c_p1_moss c_t_moss 0 0 6)
abbrev rmX0_copyMoss : Room := ({ frames := 1, cells := 0, slots := 0, locals := 18 } : Room)
set_option maxHeartbeats 4000000 in
set_option maxRecDepth 100000 in
theorem kX0_copyMoss (l : Launch) (D : va_G) (cA : ClassId) (t p1 t_kinds t_deeps t_leans t_moss p1_kinds p1_deeps p1_leans p1_moss : Nat) (sz : Nat) (t_size : Int32) (c_t_moss : Nat → Int32) (p1_size : Int32) (c_p1_moss : Nat → Int32) (o_c_t_moss : Nat → Int32) (hM : mX0_copyMoss c_t_moss c_p1_moss = some o_c_t_moss) : Met l yX0_copyMoss wsX0_copyMoss rmX0_copyMoss (va_Pc [.ref t, .ref p1] (fun U => U.heap.size = sz ∧ va_P D vwCl [(t, .inr (0, [.ref t_kinds, .ref t_deeps, .ref t_leans, .ref t_moss, .int t_size])), (t_moss, .inl (cA, 6, .inl c_t_moss)), (p1, .inr (0, [.ref p1_kinds, .ref p1_deeps, .ref p1_leans, .ref p1_moss, .int p1_size])), (p1_moss, .inl (cA, 6, .inl c_p1_moss))] U.heap ∧ mw_ev D cA U ∧ va_D (fun _ => True) [(t, .inr (0, [.ref t_kinds, .ref t_deeps, .ref t_leans, .ref t_moss, .int t_size])), (t_moss, .inl (cA, 6, .inl c_t_moss)), (p1, .inr (0, [.ref p1_kinds, .ref p1_deeps, .ref p1_leans, .ref p1_moss, .int p1_size])), (p1_moss, .inl (cA, 6, .inl c_p1_moss))])) (va_Qv (fun (_ : Unit) => True) (fun (_ : Unit) w_ => va_P D vwCl [(t, .inr (0, [.ref t_kinds, .ref t_deeps, .ref t_leans, .ref t_moss, .int t_size])), (t_moss, .inl (cA, 6, .inl o_c_t_moss)), (p1, .inr (0, [.ref p1_kinds, .ref p1_deeps, .ref p1_leans, .ref p1_moss, .int p1_size])), (p1_moss, .inl (cA, 6, .inl c_p1_moss))] w_.heap ∧ va_D (va_A [(t, .inr (0, [.ref t_kinds, .ref t_deeps, .ref t_leans, .ref t_moss, .int t_size])), (t_moss, .inl (cA, 6, .inl c_t_moss)), (p1, .inr (0, [.ref p1_kinds, .ref p1_deeps, .ref p1_leans, .ref p1_moss, .int p1_size])), (p1_moss, .inl (cA, 6, .inl c_p1_moss))] sz) [(t, .inr (0, [.ref t_kinds, .ref t_deeps, .ref t_leans, .ref t_moss, .int t_size])), (t_moss, .inl (cA, 6, .inl o_c_t_moss)), (p1, .inr (0, [.ref p1_kinds, .ref p1_deeps, .ref p1_leans, .ref p1_moss, .int p1_size])), (p1_moss, .inl (cA, 6, .inl c_p1_moss))]) (va_A [(t, .inr (0, [.ref t_kinds, .ref t_deeps, .ref t_leans, .ref t_moss, .int t_size])), (t_moss, .inl (cA, 6, .inl c_t_moss)), (p1, .inr (0, [.ref p1_kinds, .ref p1_deeps, .ref p1_leans, .ref p1_moss, .int p1_size])), (p1_moss, .inl (cA, 6, .inl c_p1_moss))] sz)) 0 0 (va_A [(t, .inr (0, [.ref t_kinds, .ref t_deeps, .ref t_leans, .ref t_moss, .int t_size])), (t_moss, .inl (cA, 6, .inl c_t_moss)), (p1, .inr (0, [.ref p1_kinds, .ref p1_deeps, .ref p1_leans, .ref p1_moss, .int p1_size])), (p1_moss, .inl (cA, 6, .inl c_p1_moss))] sz) := by
  unfold mX0_copyMoss at hM
  refine Met.ofW (cc := cX0_copyMoss) (maxL := 2) (ret := none) (by decide) rfl ?_
  intro p e s m args below meth c s₁ B hml hv
  obtain ⟨rfl, hsz, hP, hE, hD0⟩ := hv
  have hx := B.exec
  have hb := B.bytes
  have hr := B.returns
  have hts := atoms_spec (ws := wsX0_copyMoss) B.pre
  have hown : s.vm.findClass RX0 = some m.cls := findClass_of_methodNamed B.named
  have hlocks := B.notSynchronized
  have hK := hE.1
  subst hsz
  have hD := hD0.self (sz := s.heap.size)
  generalize hAe : va_A [(t, .inr (0, [.ref t_kinds, .ref t_deeps, .ref t_leans, .ref t_moss, .int t_size])), (t_moss, .inl (cA, 6, .inl c_t_moss)), (p1, .inr (0, [.ref p1_kinds, .ref p1_deeps, .ref p1_leans, .ref p1_moss, .int p1_size])), (p1_moss, .inl (cA, 6, .inl c_p1_moss))] s.heap.size = A at hD ⊢
  have hA : ∀ q : Nat, s.heap.size ≤ q → A q := fun q h => by rw [← hAe]; exact Or.inr h
  have hS : va_S A s.heap s.heap [] := va_S.rf
  have hl := lv_entry ([.ref t, .ref p1]) (n := 2) (Nat.le_of_ble_eq_true rfl)
  rw [lg_entry_eq]
  generalize (lg_sl ([.ref t, .ref p1]) ++ List.replicate (2 - (lg_sl ([.ref t, .ref p1])).length) Slot.unset).toArray = ls at hl ⊢
  have hl : lv_has ls 2 [(0, .ref t), (1, .ref p1)] := hl
  refine mw_q (P := fun Q => W p l e (headSpec wsX0_copyMoss rmX0_copyMoss).room s m (([.ref t, .ref p1] : List Value).toArray) below meth c s.heap [] 0 0 Q (F0 m 0 ls [])) (fun Q hQ => ?_)
  refine lv_aload_n hx hb dX0_copyMoss_0 rfl (lv_at hl 1 rfl) ?_
  refine lv_ifnull hx hb dX0_copyMoss_1 ?_
  refine lv_aload_n hx hb dX0_copyMoss_4 rfl (lv_at hl 1 rfl) ?_
  refine va_get (D := D) (ci := 0) (v := .ref p1_moss) (C := RX0) (T := TX0) (N := 5) hx hb hts (fun _ h => List.mem_cons_of_mem _ (List.mem_append_right _ (h))) hown hK hP 2 rfl rfl 3 (by decide) (hts (.fieldLink RX0 21 "MossWall$Clauses" "moss" "[I") (List.mem_cons_of_mem _ (List.mem_append_left _ (List.mem_of_getElem? (i := 0) rfl)))) (fun _ h9 => h9) rfl dX0_copyMoss_5 ?_
  refine lv_iconst (v := 0) hx hb dX0_copyMoss_8 (by decide) ?_
  refine lv_aload_n hx hb dX0_copyMoss_9 rfl (lv_at hl 0 rfl) ?_
  refine va_get (D := D) (ci := 0) (v := .ref t_moss) (C := RX0) (T := TX0) (N := 5) hx hb hts (fun _ h => List.mem_cons_of_mem _ (List.mem_append_right _ (h))) hown hK hP 0 rfl rfl 3 (by decide) (hts (.fieldLink RX0 21 "MossWall$Clauses" "moss" "[I") (List.mem_cons_of_mem _ (List.mem_append_left _ (List.mem_of_getElem? (i := 0) rfl)))) (fun _ h9 => h9) rfl dX0_copyMoss_10 ?_
  refine lv_iconst (v := 0) hx hb dX0_copyMoss_13 (by decide) ?_
  refine lv_bipush (v := 6) hx hb dX0_copyMoss_14 (by decide) ?_
  refine va_copyi (ty := .int) hx hb (hml.trans hl.1.symm) hown (hts (.methodLink RX0 41 arraycopyName) (List.mem_cons_of_mem _ (List.mem_append_left _ (List.mem_of_getElem? (i := 1) rfl)))) (hts (.native arraycopyName) (List.mem_cons_of_mem _ (List.mem_append_left _ (List.mem_of_getElem? (i := 2) rfl)))) (hts (.static arraycopyName) (List.mem_cons_of_mem _ (List.mem_append_left _ (List.mem_of_getElem? (i := 3) rfl)))) (hts (.initialized "java/lang/System") (List.mem_cons_of_mem _ (List.mem_append_left _ (List.mem_of_getElem? (i := 4) rfl)))) hK hP hD hS 3 1 0 0 rfl rfl rfl rfl rfl (by decide) (by decide) (by decide) (by decide) (by decide) (fun _ _ => rfl) (Nat.le_of_ble_eq_true rfl) (Nat.le_of_ble_eq_true rfl) dX0_copyMoss_16 (fun H locs hP hD hS => ?_)
  have hP : va_P D vwCl [(t, .inr (0, [.ref t_kinds, .ref t_deeps, .ref t_leans, .ref t_moss, .int t_size])), (t_moss, .inl (cA, 6, .inl (va_cpy c_p1_moss c_t_moss 0 0 6))), (p1, .inr (0, [.ref p1_kinds, .ref p1_deeps, .ref p1_leans, .ref p1_moss, .int p1_size])), (p1_moss, .inl (cA, 6, .inl c_p1_moss))] H := hP
  have hD : va_D A [(t, .inr (0, [.ref t_kinds, .ref t_deeps, .ref t_leans, .ref t_moss, .int t_size])), (t_moss, .inl (cA, 6, .inl (va_cpy c_p1_moss c_t_moss 0 0 6))), (p1, .inr (0, [.ref p1_kinds, .ref p1_deeps, .ref p1_leans, .ref p1_moss, .int p1_size])), (p1_moss, .inl (cA, 6, .inl c_p1_moss))] := hD
  obtain rfl := mw_o1 hM
  subst hQ
  exact W.vret hx hb hr (fun t ht hW => ⟨⟨(), rfl, trivial, by rw [ht]; exact hP, hD⟩, hS.F ht⟩) hS.2.2 dX0_copyMoss_19
def mX0_lacking (t_size : Int32) (c_t_deeps : Nat → Int32) (c_t_moss : Nat → Int32) (p1 : Int32) : Option Int32 :=
  (mX0_has t_size p1).bind fun r1 => (if r1 = 0 then some 0 else (mw_rd c_t_deeps 6 p1).bind fun e3 => (mw_rd c_t_moss 6 p1).bind fun e4 => some (mw_mx (e3 - e4) 0))
abbrev rmX0_lacking : Room := ({ frames := 1, cells := 0, slots := 0, locals := 21 } : Room)
set_option maxHeartbeats 4000000 in
set_option maxRecDepth 100000 in
theorem kX0_lacking (l : Launch) (D : va_G) (cA : ClassId) (t t_kinds t_deeps t_leans t_moss : Nat) (t_size : Int32) (c_t_deeps : Nat → Int32) (c_t_moss : Nat → Int32) (p1 : Int32) (r : Int32) (hM : mX0_lacking t_size c_t_deeps c_t_moss p1 = some r) : Met l yX0_lacking wsX0_lacking rmX0_lacking (va_Pc [.ref t, .int p1] (fun U => va_P D vwCl [(t, .inr (0, [.ref t_kinds, .ref t_deeps, .ref t_leans, .ref t_moss, .int t_size])), (t_deeps, .inl (cA, 6, .inl c_t_deeps)), (t_moss, .inl (cA, 6, .inl c_t_moss))] U.heap ∧ mw_ev D cA U)) (vp_Si (fun v => v = r)) 0 0 (fun _ => False) := by
  unfold mX0_lacking at hM
  refine Met.ofW (cc := cX0_lacking) (maxL := 2) (ret := (some .int)) (by decide) rfl ?_
  intro p e s m args below meth c s₁ B hml hv
  obtain ⟨rfl, hP, hE⟩ := hv
  have hx := B.exec
  have hb := B.bytes
  have hr := B.returns
  have hts := atoms_spec (ws := wsX0_lacking) B.pre
  have hown : s.vm.findClass RX0 = some m.cls := findClass_of_methodNamed B.named
  have hlocks := B.notSynchronized
  have hK := hE.1
  have hl := lv_entry ([.ref t, .int p1]) (n := 2) (Nat.le_of_ble_eq_true rfl)
  rw [lg_entry_eq]
  generalize (lg_sl ([.ref t, .int p1]) ++ List.replicate (2 - (lg_sl ([.ref t, .int p1])).length) Slot.unset).toArray = ls at hl ⊢
  have hl : lv_has ls 2 [(0, .ref t), (1, .int p1)] := hl
  refine mw_q (P := fun Q => W p l e (headSpec wsX0_lacking rmX0_lacking).room s m (([.ref t, .int p1] : List Value).toArray) below meth c s.heap [] 0 0 Q (F0 m 0 ls [])) (fun Q hQ => ?_)
  refine lv_aload_n hx hb dX0_lacking_0 rfl (lv_at hl 0 rfl) ?_
  refine lv_iload_n hx hb dX0_lacking_1 rfl (lv_at hl 1 rfl) ?_
  obtain ⟨r1, h1, hM⟩ := mw_d1 hM
  have hPc := hP.sub (ws' := [(t, .inr (0, [.ref t_kinds, .ref t_deeps, .ref t_leans, .ref t_moss, .int t_size]))]) [0] rfl
  refine vp_callSi (va_Run.run (va_runV (As := [.int p1]) (rest := []) ⟨hx, hb, hml, hown, hts⟩ (kX0_has l D cA t t_kinds t_deeps t_leans t_moss t_size p1 r1 h1) (cwV 1 hts gX0_lacking_X0_has rfl rfl rfl (by decide +kernel) ⟨Nat.le_of_ble_eq_true rfl, Nat.le_of_ble_eq_true rfl⟩) ⟨mw_fbR, va_recv hK hP (ci := 0) (q0 := 0) rfl rfl, mw_puR hPc hE⟩ rfl rfl hl.1 rfl (lv_room (Nat.le_of_ble_eq_true rfl)) dX0_lacking_2 ⟨Nat.zero_le _, Nat.zero_le _⟩)) (fun v_ e_ => ?_)
  obtain ⟨e_, b1⟩ := e_
  subst v_
  refine lv_if_eq (tgt := 28) hx hb dX0_lacking_5 (by decide) (fun q2 => ?_) (fun q2 => ?_)
  · replace hM := mw_t hM q2
    refine lv_iconst (v := 0) hx hb dX0_lacking_28 (by decide) ?_
    obtain rfl := mw_o1 hM
    subst hQ
    exact W.iret hx hb hr (fun t ht hW => ⟨_, rfl, rfl, ht⟩) (fun q h => absurd h List.not_mem_nil) dX0_lacking_29
  · replace hM := mw_f hM q2
    refine lv_aload_n hx hb dX0_lacking_8 rfl (lv_at hl 0 rfl) ?_
    refine va_get (D := D) (ci := 0) (v := .ref t_deeps) (C := RX0) (T := TX0) (N := 5) hx hb hts (fun _ h => List.mem_cons_of_mem _ (List.mem_append_right _ (h))) hown hK hP 0 rfl rfl 1 (by decide) (hts (.fieldLink RX0 15 "MossWall$Clauses" "deeps" "[I") (List.mem_cons_of_mem _ (List.mem_append_left _ (List.mem_of_getElem? (i := 0) rfl)))) (fun _ h9 => h9) rfl dX0_lacking_9 ?_
    refine lv_iload_n hx hb dX0_lacking_12 rfl (lv_at hl 1 rfl) ?_
    obtain ⟨e3, h3, hM⟩ := mw_d1 hM
    refine mw_iald hx hb hK hP 1 0 rfl rfl h3 dX0_lacking_13 ?_
    refine lv_aload_n hx hb dX0_lacking_14 rfl (lv_at hl 0 rfl) ?_
    refine va_get (D := D) (ci := 0) (v := .ref t_moss) (C := RX0) (T := TX0) (N := 5) hx hb hts (fun _ h => List.mem_cons_of_mem _ (List.mem_append_right _ (h))) hown hK hP 0 rfl rfl 3 (by decide) (hts (.fieldLink RX0 21 "MossWall$Clauses" "moss" "[I") (List.mem_cons_of_mem _ (List.mem_append_left _ (List.mem_of_getElem? (i := 1) rfl)))) (fun _ h9 => h9) rfl dX0_lacking_15 ?_
    refine lv_iload_n hx hb dX0_lacking_18 rfl (lv_at hl 1 rfl) ?_
    obtain ⟨e4, h4, hM⟩ := mw_d1 hM
    refine mw_iald hx hb hK hP 2 0 rfl rfl h4 dX0_lacking_19 ?_
    refine lv_isub hx hb dX0_lacking_20 ?_
    refine lv_iconst (v := 0) hx hb dX0_lacking_21 (by decide) ?_
    refine va_mmax hx hb (hml.trans hl.1.symm) hown (hts (.methodLink RX0 38 Lib.Math.max.name) (List.mem_cons_of_mem _ (List.mem_append_left _ (List.mem_of_getElem? (i := 2) rfl)))) (hts (.static Lib.Math.max.name) (List.mem_cons_of_mem _ (List.mem_append_left _ (List.mem_of_getElem? (i := 3) rfl)))) (hts (.initialized "java/lang/Math") (List.mem_cons_of_mem _ (List.mem_append_left _ (List.mem_of_getElem? (i := 4) rfl)))) (hts (.code Lib.Math.max.name Lib.Math.max.code 2 (some .int)) (List.mem_cons_of_mem _ (List.mem_append_left _ (List.mem_of_getElem? (i := 5) rfl)))) (Nat.le_of_ble_eq_true rfl) (Nat.le_of_ble_eq_true rfl) (Nat.zero_le _) (Nat.zero_le _) dX0_lacking_22 ?_
    refine lv_goto (tgt := 29) hx hb dX0_lacking_25 (by decide) ?_
    obtain rfl := mw_o1 hM
    subst hQ
    exact W.iret hx hb hr (fun t ht hW => ⟨_, rfl, rfl, ht⟩) (fun q h => absurd h List.not_mem_nil) dX0_lacking_29
def mX0_isClosed (t_size : Int32) (c_t_deeps : Nat → Int32) (c_t_moss : Nat → Int32) (p1 : Int32) : Option Int32 :=
  (mX0_has t_size p1).bind fun r1 => (if r1 = 0 then some 0 else (mw_rd c_t_moss 6 p1).bind fun e3 => (mw_rd c_t_deeps 6 p1).bind fun e4 => (if e3 < e4 then some 0 else some 1))
abbrev rmX0_isClosed : Room := ({ frames := 1, cells := 0, slots := 0, locals := 21 } : Room)
set_option maxHeartbeats 4000000 in
set_option maxRecDepth 100000 in
theorem kX0_isClosed (l : Launch) (D : va_G) (cA : ClassId) (t t_kinds t_deeps t_leans t_moss : Nat) (t_size : Int32) (c_t_deeps : Nat → Int32) (c_t_moss : Nat → Int32) (p1 : Int32) (r : Int32) (hM : mX0_isClosed t_size c_t_deeps c_t_moss p1 = some r) : Met l yX0_isClosed wsX0_isClosed rmX0_isClosed (va_Pc [.ref t, .int p1] (fun U => va_P D vwCl [(t, .inr (0, [.ref t_kinds, .ref t_deeps, .ref t_leans, .ref t_moss, .int t_size])), (t_deeps, .inl (cA, 6, .inl c_t_deeps)), (t_moss, .inl (cA, 6, .inl c_t_moss))] U.heap ∧ mw_ev D cA U)) (vp_Si (fun v => v = r ∧ narrow .boolean (.int v) = .int v)) 0 0 (fun _ => False) := by
  unfold mX0_isClosed at hM
  refine Met.ofW (cc := cX0_isClosed) (maxL := 2) (ret := (some .boolean)) (by decide) rfl ?_
  intro p e s m args below meth c s₁ B hml hv
  obtain ⟨rfl, hP, hE⟩ := hv
  have hx := B.exec
  have hb := B.bytes
  have hr := B.returns
  have hts := atoms_spec (ws := wsX0_isClosed) B.pre
  have hown : s.vm.findClass RX0 = some m.cls := findClass_of_methodNamed B.named
  have hlocks := B.notSynchronized
  have hK := hE.1
  have hl := lv_entry ([.ref t, .int p1]) (n := 2) (Nat.le_of_ble_eq_true rfl)
  rw [lg_entry_eq]
  generalize (lg_sl ([.ref t, .int p1]) ++ List.replicate (2 - (lg_sl ([.ref t, .int p1])).length) Slot.unset).toArray = ls at hl ⊢
  have hl : lv_has ls 2 [(0, .ref t), (1, .int p1)] := hl
  refine mw_q (P := fun Q => W p l e (headSpec wsX0_isClosed rmX0_isClosed).room s m (([.ref t, .int p1] : List Value).toArray) below meth c s.heap [] 0 0 Q (F0 m 0 ls [])) (fun Q hQ => ?_)
  refine lv_aload_n hx hb dX0_isClosed_0 rfl (lv_at hl 0 rfl) ?_
  refine lv_iload_n hx hb dX0_isClosed_1 rfl (lv_at hl 1 rfl) ?_
  obtain ⟨r1, h1, hM⟩ := mw_d1 hM
  have hPc := hP.sub (ws' := [(t, .inr (0, [.ref t_kinds, .ref t_deeps, .ref t_leans, .ref t_moss, .int t_size]))]) [0] rfl
  refine vp_callSi (va_Run.run (va_runV (As := [.int p1]) (rest := []) ⟨hx, hb, hml, hown, hts⟩ (kX0_has l D cA t t_kinds t_deeps t_leans t_moss t_size p1 r1 h1) (cwV 1 hts gX0_isClosed_X0_has rfl rfl rfl (by decide +kernel) ⟨Nat.le_of_ble_eq_true rfl, Nat.le_of_ble_eq_true rfl⟩) ⟨mw_fbR, va_recv hK hP (ci := 0) (q0 := 0) rfl rfl, mw_puR hPc hE⟩ rfl rfl hl.1 rfl (lv_room (Nat.le_of_ble_eq_true rfl)) dX0_isClosed_2 ⟨Nat.zero_le _, Nat.zero_le _⟩)) (fun v_ e_ => ?_)
  obtain ⟨e_, b1⟩ := e_
  subst v_
  refine lv_if_eq (tgt := 27) hx hb dX0_isClosed_5 (by decide) (fun q2 => ?_) (fun q2 => ?_)
  · replace hM := mw_t hM q2
    refine lv_iconst (v := 0) hx hb dX0_isClosed_27 (by decide) ?_
    obtain rfl := mw_o1 hM
    subst hQ
    exact W.zret hx hb hr rfl (fun t ht hW => ⟨_, rfl, ⟨rfl, rfl⟩, ht⟩) (fun q h => absurd h List.not_mem_nil) dX0_isClosed_28
  · replace hM := mw_f hM q2
    refine lv_aload_n hx hb dX0_isClosed_8 rfl (lv_at hl 0 rfl) ?_
    refine va_get (D := D) (ci := 0) (v := .ref t_moss) (C := RX0) (T := TX0) (N := 5) hx hb hts (fun _ h => List.mem_cons_of_mem _ (List.mem_append_right _ (h))) hown hK hP 0 rfl rfl 3 (by decide) (hts (.fieldLink RX0 21 "MossWall$Clauses" "moss" "[I") (List.mem_cons_of_mem _ (List.mem_append_left _ (List.mem_of_getElem? (i := 0) rfl)))) (fun _ h9 => h9) rfl dX0_isClosed_9 ?_
    refine lv_iload_n hx hb dX0_isClosed_12 rfl (lv_at hl 1 rfl) ?_
    obtain ⟨e3, h3, hM⟩ := mw_d1 hM
    refine mw_iald hx hb hK hP 2 0 rfl rfl h3 dX0_isClosed_13 ?_
    refine lv_aload_n hx hb dX0_isClosed_14 rfl (lv_at hl 0 rfl) ?_
    refine va_get (D := D) (ci := 0) (v := .ref t_deeps) (C := RX0) (T := TX0) (N := 5) hx hb hts (fun _ h => List.mem_cons_of_mem _ (List.mem_append_right _ (h))) hown hK hP 0 rfl rfl 1 (by decide) (hts (.fieldLink RX0 15 "MossWall$Clauses" "deeps" "[I") (List.mem_cons_of_mem _ (List.mem_append_left _ (List.mem_of_getElem? (i := 1) rfl)))) (fun _ h9 => h9) rfl dX0_isClosed_15 ?_
    refine lv_iload_n hx hb dX0_isClosed_18 rfl (lv_at hl 1 rfl) ?_
    obtain ⟨e4, h4, hM⟩ := mw_d1 hM
    refine mw_iald hx hb hK hP 1 0 rfl rfl h4 dX0_isClosed_19 ?_
    refine lv_icmp_lt (tgt := 27) hx hb dX0_isClosed_20 (by decide) (fun q5 => ?_) (fun q5 => ?_)
    · replace hM := mw_t hM q5
      refine lv_iconst (v := 0) hx hb dX0_isClosed_27 (by decide) ?_
      obtain rfl := mw_o1 hM
      subst hQ
      exact W.zret hx hb hr rfl (fun t ht hW => ⟨_, rfl, ⟨rfl, rfl⟩, ht⟩) (fun q h => absurd h List.not_mem_nil) dX0_isClosed_28
    · replace hM := mw_f hM q5
      refine lv_iconst (v := 1) hx hb dX0_isClosed_23 (by decide) ?_
      refine lv_goto (tgt := 28) hx hb dX0_isClosed_24 (by decide) ?_
      obtain rfl := mw_o1 hM
      subst hQ
      exact W.zret hx hb hr rfl (fun t ht hW => ⟨_, rfl, ⟨rfl, rfl⟩, ht⟩) (fun q h => absurd h List.not_mem_nil) dX0_isClosed_28
def mX6_growth (p1 : Int32) (p2 : Int32) : Option Int32 :=
  (if p1 = 1 then some (mw_mx (p2 - 1) 0) else (if p1 = 2 then some (mw_mn p2 1) else (if p1 = 3 then some (2 * p2) else (if p1 = 4 then some (mw_mn p2 1) else some p2))))
abbrev rmX6_growth : Room := ({ frames := 1, cells := 0, slots := 0, locals := 13 } : Room)
set_option maxHeartbeats 4000000 in
set_option maxRecDepth 100000 in
theorem kX6_growth (l : Launch) (D : va_G) (cA : ClassId) (p1 : Int32) (p2 : Int32) (r : Int32) (hM : mX6_growth p1 p2 = some r) : Met l yX6_growth wsX6_growth rmX6_growth (va_Pc [.int p1, .int p2] (fun U => va_P D vwCl [] U.heap ∧ mw_ev D cA U)) (vp_Si (fun v => v = r)) 0 0 (fun _ => False) := by
  unfold mX6_growth at hM
  refine Met.ofW (cc := cX6_growth) (maxL := 2) (ret := (some .int)) (by decide) rfl ?_
  intro p e s m args below meth c s₁ B hml hv
  obtain ⟨rfl, hP, hE⟩ := hv
  have hx := B.exec
  have hb := B.bytes
  have hr := B.returns
  have hts := atoms_spec (ws := wsX6_growth) B.pre
  have hown : s.vm.findClass RX6 = some m.cls := findClass_of_methodNamed B.named
  have hlocks := B.notSynchronized
  have hK := hE.1
  have hl := lv_entry ([.int p1, .int p2]) (n := 2) (Nat.le_of_ble_eq_true rfl)
  rw [lg_entry_eq]
  generalize (lg_sl ([.int p1, .int p2]) ++ List.replicate (2 - (lg_sl ([.int p1, .int p2])).length) Slot.unset).toArray = ls at hl ⊢
  have hl : lv_has ls 2 [(0, .int p1), (1, .int p2)] := hl
  refine mw_q (P := fun Q => W p l e (headSpec wsX6_growth rmX6_growth).room s m (([.int p1, .int p2] : List Value).toArray) below meth c s.heap [] 0 0 Q (F0 m 0 ls [])) (fun Q hQ => ?_)
  refine lv_iload_n hx hb dX6_growth_0 rfl (lv_at hl 0 rfl) ?_
  by_cases q1 : p1 = 1
  · replace hM := mw_t hM q1
    refine mw_tab (off := 31) (tgt := 32) hx hb q1 dX6_growth_1 (by decide) (by decide) (by decide) (by decide) ?_
    refine lv_iload_n hx hb dX6_growth_32 rfl (lv_at hl 1 rfl) ?_
    refine lv_iconst (v := 1) hx hb dX6_growth_33 (by decide) ?_
    refine lv_isub hx hb dX6_growth_34 ?_
    refine lv_iconst (v := 0) hx hb dX6_growth_35 (by decide) ?_
    refine va_mmax hx hb (hml.trans hl.1.symm) hown (hts (.methodLink RX6 239 Lib.Math.max.name) (List.mem_cons_of_mem _ (List.mem_of_getElem? (i := 0) rfl))) (hts (.static Lib.Math.max.name) (List.mem_cons_of_mem _ (List.mem_of_getElem? (i := 1) rfl))) (hts (.initialized "java/lang/Math") (List.mem_cons_of_mem _ (List.mem_of_getElem? (i := 2) rfl))) (hts (.code Lib.Math.max.name Lib.Math.max.code 2 (some .int)) (List.mem_cons_of_mem _ (List.mem_of_getElem? (i := 3) rfl))) (Nat.le_of_ble_eq_true rfl) (Nat.le_of_ble_eq_true rfl) (Nat.zero_le _) (Nat.zero_le _) dX6_growth_36 ?_
    obtain rfl := mw_o1 hM
    subst hQ
    exact W.iret hx hb hr (fun t ht hW => ⟨_, rfl, rfl, ht⟩) (fun q h => absurd h List.not_mem_nil) dX6_growth_39
  replace hM := mw_f hM q1
  by_cases q2 : p1 = 2
  · replace hM := mw_t hM q2
    refine mw_tab (off := 39) (tgt := 40) hx hb q2 dX6_growth_1 (by decide) (by decide) (by decide) (by decide) ?_
    refine lv_iload_n hx hb dX6_growth_40 rfl (lv_at hl 1 rfl) ?_
    refine lv_iconst (v := 1) hx hb dX6_growth_41 (by decide) ?_
    refine va_mmin hx hb (hml.trans hl.1.symm) hown (hts (.methodLink RX6 244 Lib.Math.min.name) (List.mem_cons_of_mem _ (List.mem_of_getElem? (i := 4) rfl))) (hts (.static Lib.Math.min.name) (List.mem_cons_of_mem _ (List.mem_of_getElem? (i := 5) rfl))) (hts (.initialized "java/lang/Math") (List.mem_cons_of_mem _ (List.mem_of_getElem? (i := 2) rfl))) (hts (.code Lib.Math.min.name Lib.Math.min.code 2 (some .int)) (List.mem_cons_of_mem _ (List.mem_of_getElem? (i := 6) rfl))) (Nat.le_of_ble_eq_true rfl) (Nat.le_of_ble_eq_true rfl) (Nat.zero_le _) (Nat.zero_le _) dX6_growth_42 ?_
    obtain rfl := mw_o1 hM
    subst hQ
    exact W.iret hx hb hr (fun t ht hW => ⟨_, rfl, rfl, ht⟩) (fun q h => absurd h List.not_mem_nil) dX6_growth_45
  replace hM := mw_f hM q2
  by_cases q3 : p1 = 3
  · replace hM := mw_t hM q3
    refine mw_tab (off := 45) (tgt := 46) hx hb q3 dX6_growth_1 (by decide) (by decide) (by decide) (by decide) ?_
    refine lv_iconst (v := 2) hx hb dX6_growth_46 (by decide) ?_
    refine lv_iload_n hx hb dX6_growth_47 rfl (lv_at hl 1 rfl) ?_
    refine lv_imul hx hb dX6_growth_48 ?_
    obtain rfl := mw_o1 hM
    subst hQ
    exact W.iret hx hb hr (fun t ht hW => ⟨_, rfl, rfl, ht⟩) (fun q h => absurd h List.not_mem_nil) dX6_growth_49
  replace hM := mw_f hM q3
  by_cases q4 : p1 = 4
  · replace hM := mw_t hM q4
    refine mw_tab (off := 39) (tgt := 40) hx hb q4 dX6_growth_1 (by decide) (by decide) (by decide) (by decide) ?_
    refine lv_iload_n hx hb dX6_growth_40 rfl (lv_at hl 1 rfl) ?_
    refine lv_iconst (v := 1) hx hb dX6_growth_41 (by decide) ?_
    refine va_mmin hx hb (hml.trans hl.1.symm) hown (hts (.methodLink RX6 244 Lib.Math.min.name) (List.mem_cons_of_mem _ (List.mem_of_getElem? (i := 4) rfl))) (hts (.static Lib.Math.min.name) (List.mem_cons_of_mem _ (List.mem_of_getElem? (i := 5) rfl))) (hts (.initialized "java/lang/Math") (List.mem_cons_of_mem _ (List.mem_of_getElem? (i := 2) rfl))) (hts (.code Lib.Math.min.name Lib.Math.min.code 2 (some .int)) (List.mem_cons_of_mem _ (List.mem_of_getElem? (i := 6) rfl))) (Nat.le_of_ble_eq_true rfl) (Nat.le_of_ble_eq_true rfl) (Nat.zero_le _) (Nat.zero_le _) dX6_growth_42 ?_
    obtain rfl := mw_o1 hM
    subst hQ
    exact W.iret hx hb hr (fun t ht hW => ⟨_, rfl, rfl, ht⟩) (fun q h => absurd h List.not_mem_nil) dX6_growth_45
  replace hM := mw_f hM q4
  have u1 : ¬ (p1 : Int32).toInt = 1 := lv_neT q1 (by decide)
  have u2 : ¬ (p1 : Int32).toInt = 2 := lv_neT q2 (by decide)
  have u3 : ¬ (p1 : Int32).toInt = 3 := lv_neT q3 (by decide)
  have u4 : ¬ (p1 : Int32).toInt = 4 := lv_neT q4 (by decide)
  refine lv_tableOut (x := p1) (tgt := 50) hx hb dX6_growth_1 (by omega) (by decide) ?_
  refine lv_iload_n hx hb dX6_growth_50 rfl (lv_at hl 1 rfl) ?_
  obtain rfl := mw_o1 hM
  subst hQ
  exact W.iret hx hb hr (fun t ht hW => ⟨_, rfl, rfl, ht⟩) (fun q h => absurd h List.not_mem_nil) dX6_growth_51
def mX0_grow_L1 (t_size : Int32) (c_t_kinds : Nat → Int32) (c_t_deeps : Nat → Int32) (c_t_leans : Nat → Int32) (p1 : Int32) (k1_52 : Int32 → (Nat → Int32) → Option ((Nat → Int32))) : Nat → Int32 → (Nat → Int32) → Option ((Nat → Int32))
  | 0, _, _ => none
  | n1 + 1, x2_1, y1_t_moss =>
    (if x2_1 < 0 then k1_52 x2_1 y1_t_moss else (mw_rd c_t_leans 6 x2_1).bind fun e2 => (if e2 = ((-1)) then (mw_rd c_t_kinds 6 x2_1).bind fun e4 => (mX6_growth e4 p1).bind fun r5 => (mX0_addMoss t_size y1_t_moss x2_1 r5).bind fun u6_t_moss => mX0_grow_L1 t_size c_t_kinds c_t_deeps c_t_leans p1 k1_52 n1 (x2_1 + (-1)) u6_t_moss else (mX0_isClosed t_size c_t_deeps y1_t_moss e2).bind fun r7 => (if r7 = 0 then mX0_grow_L1 t_size c_t_kinds c_t_deeps c_t_leans p1 k1_52 n1 (x2_1 + (-1)) y1_t_moss else (mw_rd c_t_kinds 6 x2_1).bind fun e9 => (mX6_growth e9 p1).bind fun r10 => (mX0_addMoss t_size y1_t_moss x2_1 r10).bind fun u11_t_moss => mX0_grow_L1 t_size c_t_kinds c_t_deeps c_t_leans p1 k1_52 n1 (x2_1 + (-1)) u11_t_moss)))
def mX0_grow (t_size : Int32) (c_t_kinds : Nat → Int32) (c_t_deeps : Nat → Int32) (c_t_leans : Nat → Int32) (c_t_moss : Nat → Int32) (p1 : Int32) : Option ((Nat → Int32)) :=
  mX0_grow_L1 t_size c_t_kinds c_t_deeps c_t_leans p1 (fun (x2_1 : Int32) (y1_t_moss : Nat → Int32) => some y1_t_moss) 300 (t_size - 1) c_t_moss
abbrev rmX0_grow : Room := ({ frames := 2, cells := 0, slots := 0, locals := 43 } : Room)
set_option maxHeartbeats 4000000 in
set_option maxRecDepth 100000 in
theorem kX0_grow (l : Launch) (D : va_G) (cA : ClassId) (t t_kinds t_deeps t_leans t_moss : Nat) (sz : Nat) (t_size : Int32) (c_t_kinds : Nat → Int32) (c_t_deeps : Nat → Int32) (c_t_leans : Nat → Int32) (c_t_moss : Nat → Int32) (p1 : Int32) (o_c_t_moss : Nat → Int32) (hM : mX0_grow t_size c_t_kinds c_t_deeps c_t_leans c_t_moss p1 = some o_c_t_moss) : Met l yX0_grow wsX0_grow rmX0_grow (va_Pc [.ref t, .int p1] (fun U => U.heap.size = sz ∧ va_P D vwCl [(t, .inr (0, [.ref t_kinds, .ref t_deeps, .ref t_leans, .ref t_moss, .int t_size])), (t_kinds, .inl (cA, 6, .inl c_t_kinds)), (t_deeps, .inl (cA, 6, .inl c_t_deeps)), (t_leans, .inl (cA, 6, .inl c_t_leans)), (t_moss, .inl (cA, 6, .inl c_t_moss))] U.heap ∧ mw_ev D cA U ∧ va_D (fun _ => True) [(t, .inr (0, [.ref t_kinds, .ref t_deeps, .ref t_leans, .ref t_moss, .int t_size])), (t_kinds, .inl (cA, 6, .inl c_t_kinds)), (t_deeps, .inl (cA, 6, .inl c_t_deeps)), (t_leans, .inl (cA, 6, .inl c_t_leans)), (t_moss, .inl (cA, 6, .inl c_t_moss))])) (va_Qv (fun (_ : Unit) => True) (fun (_ : Unit) w_ => va_P D vwCl [(t, .inr (0, [.ref t_kinds, .ref t_deeps, .ref t_leans, .ref t_moss, .int t_size])), (t_kinds, .inl (cA, 6, .inl c_t_kinds)), (t_deeps, .inl (cA, 6, .inl c_t_deeps)), (t_leans, .inl (cA, 6, .inl c_t_leans)), (t_moss, .inl (cA, 6, .inl o_c_t_moss))] w_.heap ∧ va_D (va_A [(t, .inr (0, [.ref t_kinds, .ref t_deeps, .ref t_leans, .ref t_moss, .int t_size])), (t_kinds, .inl (cA, 6, .inl c_t_kinds)), (t_deeps, .inl (cA, 6, .inl c_t_deeps)), (t_leans, .inl (cA, 6, .inl c_t_leans)), (t_moss, .inl (cA, 6, .inl c_t_moss))] sz) [(t, .inr (0, [.ref t_kinds, .ref t_deeps, .ref t_leans, .ref t_moss, .int t_size])), (t_kinds, .inl (cA, 6, .inl c_t_kinds)), (t_deeps, .inl (cA, 6, .inl c_t_deeps)), (t_leans, .inl (cA, 6, .inl c_t_leans)), (t_moss, .inl (cA, 6, .inl o_c_t_moss))]) (va_A [(t, .inr (0, [.ref t_kinds, .ref t_deeps, .ref t_leans, .ref t_moss, .int t_size])), (t_kinds, .inl (cA, 6, .inl c_t_kinds)), (t_deeps, .inl (cA, 6, .inl c_t_deeps)), (t_leans, .inl (cA, 6, .inl c_t_leans)), (t_moss, .inl (cA, 6, .inl c_t_moss))] sz)) 0 0 (va_A [(t, .inr (0, [.ref t_kinds, .ref t_deeps, .ref t_leans, .ref t_moss, .int t_size])), (t_kinds, .inl (cA, 6, .inl c_t_kinds)), (t_deeps, .inl (cA, 6, .inl c_t_deeps)), (t_leans, .inl (cA, 6, .inl c_t_leans)), (t_moss, .inl (cA, 6, .inl c_t_moss))] sz) := by
  unfold mX0_grow at hM
  refine Met.ofW (cc := cX0_grow) (maxL := 4) (ret := none) (by decide) rfl ?_
  intro p e s m args below meth c s₁ B hml hv
  obtain ⟨rfl, hsz, hP, hE, hD0⟩ := hv
  have hx := B.exec
  have hb := B.bytes
  have hr := B.returns
  have hts := atoms_spec (ws := wsX0_grow) B.pre
  have hown : s.vm.findClass RX0 = some m.cls := findClass_of_methodNamed B.named
  have hlocks := B.notSynchronized
  have hK := hE.1
  subst hsz
  have hD := hD0.self (sz := s.heap.size)
  generalize hAe : va_A [(t, .inr (0, [.ref t_kinds, .ref t_deeps, .ref t_leans, .ref t_moss, .int t_size])), (t_kinds, .inl (cA, 6, .inl c_t_kinds)), (t_deeps, .inl (cA, 6, .inl c_t_deeps)), (t_leans, .inl (cA, 6, .inl c_t_leans)), (t_moss, .inl (cA, 6, .inl c_t_moss))] s.heap.size = A at hD ⊢
  have hA : ∀ q : Nat, s.heap.size ≤ q → A q := fun q h => by rw [← hAe]; exact Or.inr h
  have hS : va_S A s.heap s.heap [] := va_S.rf
  have hl := lv_entry ([.ref t, .int p1]) (n := 4) (Nat.le_of_ble_eq_true rfl)
  rw [lg_entry_eq]
  generalize (lg_sl ([.ref t, .int p1]) ++ List.replicate (4 - (lg_sl ([.ref t, .int p1])).length) Slot.unset).toArray = ls at hl ⊢
  have hl : lv_has ls 4 [(0, .ref t), (1, .int p1)] := hl
  refine mw_q (P := fun Q => W p l e (headSpec wsX0_grow rmX0_grow).room s m (([.ref t, .int p1] : List Value).toArray) below meth c s.heap [] 0 0 Q (F0 m 0 ls [])) (fun Q hQ => ?_)
  refine lv_aload_n hx hb dX0_grow_0 rfl (lv_at hl 0 rfl) ?_
  refine va_get (D := D) (ci := 0) (v := .int t_size) (C := RX0) (T := TX0) (N := 5) hx hb hts (fun _ h => List.mem_cons_of_mem _ (List.mem_append_right _ (h))) hown hK hP 0 rfl rfl 4 (by decide) (hts (.fieldLink RX0 24 "MossWall$Clauses" "size" "I") (List.mem_cons_of_mem _ (List.mem_append_left _ (List.mem_append_left _ (List.mem_of_getElem? (i := 0) rfl))))) (fun _ h9 => h9) rfl dX0_grow_1 ?_
  refine lv_iconst (v := 1) hx hb dX0_grow_4 (by decide) ?_
  refine lv_isub hx hb dX0_grow_5 ?_
  refine lv_istore_n (lv' := [(2, .int (t_size - 1)), (0, .ref t), (1, .int p1)]) hx hb dX0_grow_6 rfl hl (by decide) rfl (fun ls hl => ?_)
  obtain ⟨k1_52, jk1_52⟩ : ∃ k : Int32 → (Nat → Int32) → Option ((Nat → Int32)), k = fun (x2_1 : Int32) (y1_t_moss : Nat → Int32) => some y1_t_moss := ⟨_, rfl⟩
  have Ek1_52 : ∀ (x2_1 : Int32) (y1_t_moss : Nat → Int32) (H : Heap) (locs : List Loc) (ls : Array Slot), va_P D vwCl [(t, .inr (0, [.ref t_kinds, .ref t_deeps, .ref t_leans, .ref t_moss, .int t_size])), (t_kinds, .inl (cA, 6, .inl c_t_kinds)), (t_deeps, .inl (cA, 6, .inl c_t_deeps)), (t_leans, .inl (cA, 6, .inl c_t_leans)), (t_moss, .inl (cA, 6, .inl y1_t_moss))] H → va_D A [(t, .inr (0, [.ref t_kinds, .ref t_deeps, .ref t_leans, .ref t_moss, .int t_size])), (t_kinds, .inl (cA, 6, .inl c_t_kinds)), (t_deeps, .inl (cA, 6, .inl c_t_deeps)), (t_leans, .inl (cA, 6, .inl c_t_leans)), (t_moss, .inl (cA, 6, .inl y1_t_moss))] → va_S A s.heap H locs → lv_has ls 4 [(2, .int x2_1), (0, .ref t), (1, .int p1)] → k1_52 x2_1 y1_t_moss = some o_c_t_moss → W p l e (headSpec wsX0_grow rmX0_grow).room s m (([.ref t, .int p1] : List Value).toArray) below meth c H locs 0 0 Q (F0 m 52 ls []) := by
      intro x2_1 y1_t_moss H locs ls hP hD hS hl hM
      rw [jk1_52] at hM
      obtain rfl := mw_o1 hM
      subst hQ
      exact W.vret hx hb hr (fun t ht hW => ⟨⟨(), rfl, trivial, by rw [ht]; exact hP, hD⟩, hS.F ht⟩) hS.2.2 dX0_grow_52
  have L1 : ∀ (n1 : Nat) (x2_1 : Int32) (y1_t_moss : Nat → Int32) (H : Heap) (locs : List Loc) (ls : Array Slot), va_P D vwCl [(t, .inr (0, [.ref t_kinds, .ref t_deeps, .ref t_leans, .ref t_moss, .int t_size])), (t_kinds, .inl (cA, 6, .inl c_t_kinds)), (t_deeps, .inl (cA, 6, .inl c_t_deeps)), (t_leans, .inl (cA, 6, .inl c_t_leans)), (t_moss, .inl (cA, 6, .inl y1_t_moss))] H → va_D A [(t, .inr (0, [.ref t_kinds, .ref t_deeps, .ref t_leans, .ref t_moss, .int t_size])), (t_kinds, .inl (cA, 6, .inl c_t_kinds)), (t_deeps, .inl (cA, 6, .inl c_t_deeps)), (t_leans, .inl (cA, 6, .inl c_t_leans)), (t_moss, .inl (cA, 6, .inl y1_t_moss))] → va_S A s.heap H locs → lv_has ls 4 [(2, .int x2_1), (0, .ref t), (1, .int p1)] → mX0_grow_L1 t_size c_t_kinds c_t_deeps c_t_leans p1 k1_52 n1 x2_1 y1_t_moss = some o_c_t_moss → W p l e (headSpec wsX0_grow rmX0_grow).room s m (([.ref t, .int p1] : List Value).toArray) below meth c H locs 0 0 Q (F0 m 7 ls []) := by
      intro n1
      induction n1 with
      | zero =>
        intro x2_1 y1_t_moss H locs ls hP hD hS hl hM
        rw [mX0_grow_L1] at hM
        exact mw_none hM
      | succ n1 ih1 =>
        intro x2_1 y1_t_moss H locs ls hP hD hS hl hM
        rw [mX0_grow_L1] at hM
        refine lv_iload_n hx hb dX0_grow_7 rfl (lv_at hl 0 rfl) ?_
        refine lv_if_lt (tgt := 52) hx hb dX0_grow_8 (by decide) (fun q1 => ?_) (fun q1 => ?_)
        · replace hM := mw_t hM q1
          exact Ek1_52 x2_1 y1_t_moss _ _ _ hP hD hS (lv_sub hl [0, 1, 2] rfl) hM
        · replace hM := mw_f hM q1
          refine lv_aload_n hx hb dX0_grow_11 rfl (lv_at hl 1 rfl) ?_
          refine va_get (D := D) (ci := 0) (v := .ref t_leans) (C := RX0) (T := TX0) (N := 5) hx hb hts (fun _ h => List.mem_cons_of_mem _ (List.mem_append_right _ (h))) hown hK hP 0 rfl rfl 2 (by decide) (hts (.fieldLink RX0 18 "MossWall$Clauses" "leans" "[I") (List.mem_cons_of_mem _ (List.mem_append_left _ (List.mem_append_left _ (List.mem_of_getElem? (i := 1) rfl))))) (fun _ h9 => h9) rfl dX0_grow_12 ?_
          refine lv_iload_n hx hb dX0_grow_15 rfl (lv_at hl 0 rfl) ?_
          obtain ⟨e2, h2, hM⟩ := mw_d1 hM
          refine mw_iald hx hb hK hP 3 0 rfl rfl h2 dX0_grow_16 ?_
          refine lv_istore_n (lv' := [(3, .int e2), (2, .int x2_1), (0, .ref t), (1, .int p1)]) hx hb dX0_grow_17 rfl hl (by decide) rfl (fun ls hl => ?_)
          refine lv_iload_n hx hb dX0_grow_18 rfl (lv_at hl 0 rfl) ?_
          refine lv_iconst (v := (-1)) hx hb dX0_grow_19 (by decide) ?_
          refine lv_icmp_eq (tgt := 31) hx hb dX0_grow_20 (by decide) (fun q3 => ?_) (fun q3 => ?_)
          · replace hM := mw_t hM q3
            refine lv_aload_n hx hb dX0_grow_31 rfl (lv_at hl 2 rfl) ?_
            refine lv_iload_n hx hb dX0_grow_32 rfl (lv_at hl 1 rfl) ?_
            refine lv_aload_n hx hb dX0_grow_33 rfl (lv_at hl 2 rfl) ?_
            refine va_get (D := D) (ci := 0) (v := .ref t_kinds) (C := RX0) (T := TX0) (N := 5) hx hb hts (fun _ h => List.mem_cons_of_mem _ (List.mem_append_right _ (h))) hown hK hP 0 rfl rfl 0 (by decide) (hts (.fieldLink RX0 9 "MossWall$Clauses" "kinds" "[I") (List.mem_cons_of_mem _ (List.mem_append_left _ (List.mem_append_left _ (List.mem_of_getElem? (i := 2) rfl))))) (fun _ h9 => h9) rfl dX0_grow_34 ?_
            refine lv_iload_n hx hb dX0_grow_37 rfl (lv_at hl 1 rfl) ?_
            obtain ⟨e4, h4, hM⟩ := mw_d1 hM
            refine mw_iald hx hb hK hP 1 0 rfl rfl h4 dX0_grow_38 ?_
            refine lv_iload_n hx hb dX0_grow_39 rfl (lv_at hl 3 rfl) ?_
            obtain ⟨r5, h5, hM⟩ := mw_d1 hM
            have hPc := hP.sub (ws' := []) [] rfl
            refine vp_callSi (va_Run.run (va_runSN (As := [.int e4, .int p1]) (rest := [.int x2_1, .ref t]) ⟨hx, hb, hml, hown, hts⟩ (kX6_growth l D cA e4 p1 r5 h5) ⟨va_cnB (own := RX0) (index := 50) (host := RX6) 2 hts gX0_grow_X6_growth_n50 rfl rfl rfl (hE.2 (RX0, 50, yX6_growth) (by decide +kernel)) (hts (.initialized RX6) (List.mem_cons_of_mem _ (List.mem_append_left _ (List.mem_append_left _ (List.mem_of_getElem? (i := 15) rfl))))) (by decide +kernel) ⟨Nat.le_of_ble_eq_true rfl, Nat.le_of_ble_eq_true rfl⟩, (hts (.static yX6_growth) (List.mem_cons_of_mem _ (List.mem_append_left _ (List.mem_append_left _ (List.mem_of_getElem? (i := 14) rfl))))), trivial⟩ ⟨mw_fbR, mw_puR hPc hE⟩ rfl rfl hl.1 rfl (lv_room (Nat.le_of_ble_eq_true rfl)) dX0_grow_40 ⟨Nat.zero_le _, Nat.zero_le _⟩)) (fun v_ e_ => ?_)
            subst v_
            obtain ⟨u6_t_moss, h6, hM⟩ := mw_d1 hM
            have hPc := hP.sub (ws' := [(t, .inr (0, [.ref t_kinds, .ref t_deeps, .ref t_leans, .ref t_moss, .int t_size])), (t_moss, .inl (cA, 6, .inl y1_t_moss))]) [0, 4] rfl
            have hDc := hD.sub (ws' := [(t, .inr (0, [.ref t_kinds, .ref t_deeps, .ref t_leans, .ref t_moss, .int t_size])), (t_moss, .inl (cA, 6, .inl y1_t_moss))]) [0, 4] (by decide) rfl
            have hFc := va_free (wc := [(t, .inr (0, [.ref t_kinds, .ref t_deeps, .ref t_leans, .ref t_moss, .int t_size])), (t_moss, .inl (cA, 6, .inl y1_t_moss))]) hD hS hA [0, 4] rfl
            refine va_callv (va_runV (As := [.int x2_1, .int r5]) (rest := []) ⟨hx, hb, hml, hown, hts⟩ (kX0_addMoss l D cA t t_kinds t_deeps t_leans t_moss _ t_size y1_t_moss x2_1 r5 u6_t_moss h6) (cwV 2 hts gX0_grow_X0_addMoss rfl rfl rfl (by decide +kernel) ⟨Nat.le_of_ble_eq_true rfl, Nat.le_of_ble_eq_true rfl⟩) ⟨mw_fbW, va_recv hK hP (ci := 0) (q0 := 0) rfl rfl, mw_puW hPc hE hDc⟩ rfl rfl hl.1 rfl (lv_room (Nat.le_of_ble_eq_true rfl)) dX0_grow_43 ⟨Nat.zero_le _, Nat.zero_le _⟩) hS (fun q _ h => hFc q h) hFc (fun _ t_ H locs ht_ _ _ hB_ _ hk_ hS => ?_)
            obtain ⟨hP1, hD1⟩ := hB_
            rw [ht_] at hP1
            obtain ⟨hP, hD⟩ := va_join (wr := [(t_kinds, .inl (cA, 6, .inl c_t_kinds)), (t_deeps, .inl (cA, 6, .inl c_t_deeps)), (t_leans, .inl (cA, 6, .inl c_t_leans))]) (w1 := [(t, .inr (0, [.ref t_kinds, .ref t_deeps, .ref t_leans, .ref t_moss, .int t_size])), (t_moss, .inl (cA, 6, .inl u6_t_moss))]) hP hD [0, 4] [1, 2, 3] rfl rfl (by decide) (by decide) hk_ hFc hP1 hD1
            have hP : va_P D vwCl [(t_kinds, .inl (cA, 6, .inl c_t_kinds)), (t_deeps, .inl (cA, 6, .inl c_t_deeps)), (t_leans, .inl (cA, 6, .inl c_t_leans)), (t, .inr (0, [.ref t_kinds, .ref t_deeps, .ref t_leans, .ref t_moss, .int t_size])), (t_moss, .inl (cA, 6, .inl u6_t_moss))] H := hP
            have hD : va_D A [(t_kinds, .inl (cA, 6, .inl c_t_kinds)), (t_deeps, .inl (cA, 6, .inl c_t_deeps)), (t_leans, .inl (cA, 6, .inl c_t_leans)), (t, .inr (0, [.ref t_kinds, .ref t_deeps, .ref t_leans, .ref t_moss, .int t_size])), (t_moss, .inl (cA, 6, .inl u6_t_moss))] := hD
            refine lv_iinc (v := x2_1 + (-1)) (lv' := [(2, .int (x2_1 + (-1))), (3, .int e2), (0, .ref t), (1, .int p1)]) hx hb dX0_grow_46 hl (k := 1) rfl (by first | rfl | decide) (by decide) rfl (fun ls hl => ?_)
            refine lv_goto (tgt := 7) hx hb dX0_grow_49 (by decide) ?_
            have hP := hP.sub (ws' := [(t, .inr (0, [.ref t_kinds, .ref t_deeps, .ref t_leans, .ref t_moss, .int t_size])), (t_kinds, .inl (cA, 6, .inl c_t_kinds)), (t_deeps, .inl (cA, 6, .inl c_t_deeps)), (t_leans, .inl (cA, 6, .inl c_t_leans)), (t_moss, .inl (cA, 6, .inl u6_t_moss))]) [3, 0, 1, 2, 4] rfl
            have hD := hD.sub (ws' := [(t, .inr (0, [.ref t_kinds, .ref t_deeps, .ref t_leans, .ref t_moss, .int t_size])), (t_kinds, .inl (cA, 6, .inl c_t_kinds)), (t_deeps, .inl (cA, 6, .inl c_t_deeps)), (t_leans, .inl (cA, 6, .inl c_t_leans)), (t_moss, .inl (cA, 6, .inl u6_t_moss))]) [3, 0, 1, 2, 4] (by decide) rfl
            exact ih1 (x2_1 + (-1)) u6_t_moss _ _ _ hP hD hS (lv_sub hl [0, 2, 3] rfl) hM
          · replace hM := mw_f hM q3
            refine lv_aload_n hx hb dX0_grow_23 rfl (lv_at hl 2 rfl) ?_
            refine lv_iload_n hx hb dX0_grow_24 rfl (lv_at hl 0 rfl) ?_
            obtain ⟨r7, h7, hM⟩ := mw_d1 hM
            have hPc := hP.sub (ws' := [(t, .inr (0, [.ref t_kinds, .ref t_deeps, .ref t_leans, .ref t_moss, .int t_size])), (t_deeps, .inl (cA, 6, .inl c_t_deeps)), (t_moss, .inl (cA, 6, .inl y1_t_moss))]) [0, 2, 4] rfl
            refine vp_callSi (va_Run.run (va_runV (As := [.int e2]) (rest := []) ⟨hx, hb, hml, hown, hts⟩ (kX0_isClosed l D cA t t_kinds t_deeps t_leans t_moss t_size c_t_deeps y1_t_moss e2 r7 h7) (cwV 1 hts gX0_grow_X0_isClosed rfl rfl rfl (by decide +kernel) ⟨Nat.le_of_ble_eq_true rfl, Nat.le_of_ble_eq_true rfl⟩) ⟨mw_fbR, va_recv hK hP (ci := 0) (q0 := 0) rfl rfl, mw_puR hPc hE⟩ rfl rfl hl.1 rfl (lv_room (Nat.le_of_ble_eq_true rfl)) dX0_grow_25 ⟨Nat.zero_le _, Nat.zero_le _⟩)) (fun v_ e_ => ?_)
            obtain ⟨e_, b7⟩ := e_
            subst v_
            refine lv_if_eq (tgt := 46) hx hb dX0_grow_28 (by decide) (fun q8 => ?_) (fun q8 => ?_)
            · replace hM := mw_t hM q8
              refine lv_iinc (v := x2_1 + (-1)) (lv' := [(2, .int (x2_1 + (-1))), (3, .int e2), (0, .ref t), (1, .int p1)]) hx hb dX0_grow_46 hl (k := 1) rfl (by first | rfl | decide) (by decide) rfl (fun ls hl => ?_)
              refine lv_goto (tgt := 7) hx hb dX0_grow_49 (by decide) ?_
              exact ih1 (x2_1 + (-1)) y1_t_moss _ _ _ hP hD hS (lv_sub hl [0, 2, 3] rfl) hM
            · replace hM := mw_f hM q8
              refine lv_aload_n hx hb dX0_grow_31 rfl (lv_at hl 2 rfl) ?_
              refine lv_iload_n hx hb dX0_grow_32 rfl (lv_at hl 1 rfl) ?_
              refine lv_aload_n hx hb dX0_grow_33 rfl (lv_at hl 2 rfl) ?_
              refine va_get (D := D) (ci := 0) (v := .ref t_kinds) (C := RX0) (T := TX0) (N := 5) hx hb hts (fun _ h => List.mem_cons_of_mem _ (List.mem_append_right _ (h))) hown hK hP 0 rfl rfl 0 (by decide) (hts (.fieldLink RX0 9 "MossWall$Clauses" "kinds" "[I") (List.mem_cons_of_mem _ (List.mem_append_left _ (List.mem_append_left _ (List.mem_of_getElem? (i := 2) rfl))))) (fun _ h9 => h9) rfl dX0_grow_34 ?_
              refine lv_iload_n hx hb dX0_grow_37 rfl (lv_at hl 1 rfl) ?_
              obtain ⟨e9, h9, hM⟩ := mw_d1 hM
              refine mw_iald hx hb hK hP 1 0 rfl rfl h9 dX0_grow_38 ?_
              refine lv_iload_n hx hb dX0_grow_39 rfl (lv_at hl 3 rfl) ?_
              obtain ⟨r10, h10, hM⟩ := mw_d1 hM
              have hPc := hP.sub (ws' := []) [] rfl
              refine vp_callSi (va_Run.run (va_runSN (As := [.int e9, .int p1]) (rest := [.int x2_1, .ref t]) ⟨hx, hb, hml, hown, hts⟩ (kX6_growth l D cA e9 p1 r10 h10) ⟨va_cnB (own := RX0) (index := 50) (host := RX6) 2 hts gX0_grow_X6_growth_n50 rfl rfl rfl (hE.2 (RX0, 50, yX6_growth) (by decide +kernel)) (hts (.initialized RX6) (List.mem_cons_of_mem _ (List.mem_append_left _ (List.mem_append_left _ (List.mem_of_getElem? (i := 15) rfl))))) (by decide +kernel) ⟨Nat.le_of_ble_eq_true rfl, Nat.le_of_ble_eq_true rfl⟩, (hts (.static yX6_growth) (List.mem_cons_of_mem _ (List.mem_append_left _ (List.mem_append_left _ (List.mem_of_getElem? (i := 14) rfl))))), trivial⟩ ⟨mw_fbR, mw_puR hPc hE⟩ rfl rfl hl.1 rfl (lv_room (Nat.le_of_ble_eq_true rfl)) dX0_grow_40 ⟨Nat.zero_le _, Nat.zero_le _⟩)) (fun v_ e_ => ?_)
              subst v_
              obtain ⟨u11_t_moss, h11, hM⟩ := mw_d1 hM
              have hPc := hP.sub (ws' := [(t, .inr (0, [.ref t_kinds, .ref t_deeps, .ref t_leans, .ref t_moss, .int t_size])), (t_moss, .inl (cA, 6, .inl y1_t_moss))]) [0, 4] rfl
              have hDc := hD.sub (ws' := [(t, .inr (0, [.ref t_kinds, .ref t_deeps, .ref t_leans, .ref t_moss, .int t_size])), (t_moss, .inl (cA, 6, .inl y1_t_moss))]) [0, 4] (by decide) rfl
              have hFc := va_free (wc := [(t, .inr (0, [.ref t_kinds, .ref t_deeps, .ref t_leans, .ref t_moss, .int t_size])), (t_moss, .inl (cA, 6, .inl y1_t_moss))]) hD hS hA [0, 4] rfl
              refine va_callv (va_runV (As := [.int x2_1, .int r10]) (rest := []) ⟨hx, hb, hml, hown, hts⟩ (kX0_addMoss l D cA t t_kinds t_deeps t_leans t_moss _ t_size y1_t_moss x2_1 r10 u11_t_moss h11) (cwV 2 hts gX0_grow_X0_addMoss rfl rfl rfl (by decide +kernel) ⟨Nat.le_of_ble_eq_true rfl, Nat.le_of_ble_eq_true rfl⟩) ⟨mw_fbW, va_recv hK hP (ci := 0) (q0 := 0) rfl rfl, mw_puW hPc hE hDc⟩ rfl rfl hl.1 rfl (lv_room (Nat.le_of_ble_eq_true rfl)) dX0_grow_43 ⟨Nat.zero_le _, Nat.zero_le _⟩) hS (fun q _ h => hFc q h) hFc (fun _ t_ H locs ht_ _ _ hB_ _ hk_ hS => ?_)
              obtain ⟨hP1, hD1⟩ := hB_
              rw [ht_] at hP1
              obtain ⟨hP, hD⟩ := va_join (wr := [(t_kinds, .inl (cA, 6, .inl c_t_kinds)), (t_deeps, .inl (cA, 6, .inl c_t_deeps)), (t_leans, .inl (cA, 6, .inl c_t_leans))]) (w1 := [(t, .inr (0, [.ref t_kinds, .ref t_deeps, .ref t_leans, .ref t_moss, .int t_size])), (t_moss, .inl (cA, 6, .inl u11_t_moss))]) hP hD [0, 4] [1, 2, 3] rfl rfl (by decide) (by decide) hk_ hFc hP1 hD1
              have hP : va_P D vwCl [(t_kinds, .inl (cA, 6, .inl c_t_kinds)), (t_deeps, .inl (cA, 6, .inl c_t_deeps)), (t_leans, .inl (cA, 6, .inl c_t_leans)), (t, .inr (0, [.ref t_kinds, .ref t_deeps, .ref t_leans, .ref t_moss, .int t_size])), (t_moss, .inl (cA, 6, .inl u11_t_moss))] H := hP
              have hD : va_D A [(t_kinds, .inl (cA, 6, .inl c_t_kinds)), (t_deeps, .inl (cA, 6, .inl c_t_deeps)), (t_leans, .inl (cA, 6, .inl c_t_leans)), (t, .inr (0, [.ref t_kinds, .ref t_deeps, .ref t_leans, .ref t_moss, .int t_size])), (t_moss, .inl (cA, 6, .inl u11_t_moss))] := hD
              refine lv_iinc (v := x2_1 + (-1)) (lv' := [(2, .int (x2_1 + (-1))), (3, .int e2), (0, .ref t), (1, .int p1)]) hx hb dX0_grow_46 hl (k := 1) rfl (by first | rfl | decide) (by decide) rfl (fun ls hl => ?_)
              refine lv_goto (tgt := 7) hx hb dX0_grow_49 (by decide) ?_
              have hP := hP.sub (ws' := [(t, .inr (0, [.ref t_kinds, .ref t_deeps, .ref t_leans, .ref t_moss, .int t_size])), (t_kinds, .inl (cA, 6, .inl c_t_kinds)), (t_deeps, .inl (cA, 6, .inl c_t_deeps)), (t_leans, .inl (cA, 6, .inl c_t_leans)), (t_moss, .inl (cA, 6, .inl u11_t_moss))]) [3, 0, 1, 2, 4] rfl
              have hD := hD.sub (ws' := [(t, .inr (0, [.ref t_kinds, .ref t_deeps, .ref t_leans, .ref t_moss, .int t_size])), (t_kinds, .inl (cA, 6, .inl c_t_kinds)), (t_deeps, .inl (cA, 6, .inl c_t_deeps)), (t_leans, .inl (cA, 6, .inl c_t_leans)), (t_moss, .inl (cA, 6, .inl u11_t_moss))]) [3, 0, 1, 2, 4] (by decide) rfl
              exact ih1 (x2_1 + (-1)) u11_t_moss _ _ _ hP hD hS (lv_sub hl [0, 2, 3] rfl) hM
  exact L1 300 (t_size - 1) c_t_moss _ _ _ hP hD hS hl (by rw [jk1_52]; exact hM)
def mX0_closedBits_L1 (t_size : Int32) (c_t_deeps : Nat → Int32) (c_t_moss : Nat → Int32) (k1_32 : Int32 → Int32 → Option Int32) : Nat → Int32 → Int32 → Option Int32
  | 0, _, _ => none
  | n1 + 1, x2_1, x1_1 =>
    (if t_size ≤ x2_1 then k1_32 x2_1 x1_1 else (mX0_isClosed t_size c_t_deeps c_t_moss x2_1).bind fun r2 => (if r2 = 0 then mX0_closedBits_L1 t_size c_t_deeps c_t_moss k1_32 n1 (x2_1 + 1) x1_1 else mX0_closedBits_L1 t_size c_t_deeps c_t_moss k1_32 n1 (x2_1 + 1) (x1_1 ||| (1 <<< (x2_1 &&& 31)))))
def mX0_closedBits (t_size : Int32) (c_t_deeps : Nat → Int32) (c_t_moss : Nat → Int32) : Option Int32 :=
  mX0_closedBits_L1 t_size c_t_deeps c_t_moss (fun (x2_1 : Int32) (x1_1 : Int32) => some x1_1) 300 0 0
abbrev rmX0_closedBits : Room := ({ frames := 2, cells := 0, slots := 0, locals := 42 } : Room)
set_option maxHeartbeats 4000000 in
set_option maxRecDepth 100000 in
theorem kX0_closedBits (l : Launch) (D : va_G) (cA : ClassId) (t t_kinds t_deeps t_leans t_moss : Nat) (t_size : Int32) (c_t_deeps : Nat → Int32) (c_t_moss : Nat → Int32) (r : Int32) (hM : mX0_closedBits t_size c_t_deeps c_t_moss = some r) : Met l yX0_closedBits wsX0_closedBits rmX0_closedBits (va_Pc [.ref t] (fun U => va_P D vwCl [(t, .inr (0, [.ref t_kinds, .ref t_deeps, .ref t_leans, .ref t_moss, .int t_size])), (t_deeps, .inl (cA, 6, .inl c_t_deeps)), (t_moss, .inl (cA, 6, .inl c_t_moss))] U.heap ∧ mw_ev D cA U)) (vp_Si (fun v => v = r)) 0 0 (fun _ => False) := by
  unfold mX0_closedBits at hM
  refine Met.ofW (cc := cX0_closedBits) (maxL := 3) (ret := (some .int)) (by decide) rfl ?_
  intro p e s m args below meth c s₁ B hml hv
  obtain ⟨rfl, hP, hE⟩ := hv
  have hx := B.exec
  have hb := B.bytes
  have hr := B.returns
  have hts := atoms_spec (ws := wsX0_closedBits) B.pre
  have hown : s.vm.findClass RX0 = some m.cls := findClass_of_methodNamed B.named
  have hlocks := B.notSynchronized
  have hK := hE.1
  have hl := lv_entry ([.ref t]) (n := 3) (Nat.le_of_ble_eq_true rfl)
  rw [lg_entry_eq]
  generalize (lg_sl ([.ref t]) ++ List.replicate (3 - (lg_sl ([.ref t])).length) Slot.unset).toArray = ls at hl ⊢
  have hl : lv_has ls 3 [(0, .ref t)] := hl
  refine mw_q (P := fun Q => W p l e (headSpec wsX0_closedBits rmX0_closedBits).room s m (([.ref t] : List Value).toArray) below meth c s.heap [] 0 0 Q (F0 m 0 ls [])) (fun Q hQ => ?_)
  refine lv_iconst (v := 0) hx hb dX0_closedBits_0 (by decide) ?_
  refine lv_istore_n (lv' := [(1, .int 0), (0, .ref t)]) hx hb dX0_closedBits_1 rfl hl (by decide) rfl (fun ls hl => ?_)
  refine lv_iconst (v := 0) hx hb dX0_closedBits_2 (by decide) ?_
  refine lv_istore_n (lv' := [(2, .int 0), (1, .int 0), (0, .ref t)]) hx hb dX0_closedBits_3 rfl hl (by decide) rfl (fun ls hl => ?_)
  obtain ⟨k1_32, jk1_32⟩ : ∃ k : Int32 → Int32 → Option Int32, k = fun (x2_1 : Int32) (x1_1 : Int32) => some x1_1 := ⟨_, rfl⟩
  have Ek1_32 : ∀ (x2_1 : Int32) (x1_1 : Int32) (ls : Array Slot), lv_has ls 3 [(2, .int x2_1), (1, .int x1_1), (0, .ref t)] → k1_32 x2_1 x1_1 = some r → W p l e (headSpec wsX0_closedBits rmX0_closedBits).room s m (([.ref t] : List Value).toArray) below meth c s.heap [] 0 0 Q (F0 m 32 ls []) := by
      intro x2_1 x1_1 ls hl hM
      rw [jk1_32] at hM
      refine lv_iload_n hx hb dX0_closedBits_32 rfl (lv_at hl 1 rfl) ?_
      obtain rfl := mw_o1 hM
      subst hQ
      exact W.iret hx hb hr (fun t ht hW => ⟨_, rfl, rfl, ht⟩) (fun q h => absurd h List.not_mem_nil) dX0_closedBits_33
  have L1 : ∀ (n1 : Nat) (x2_1 : Int32) (x1_1 : Int32) (ls : Array Slot), lv_has ls 3 [(2, .int x2_1), (1, .int x1_1), (0, .ref t)] → mX0_closedBits_L1 t_size c_t_deeps c_t_moss k1_32 n1 x2_1 x1_1 = some r → W p l e (headSpec wsX0_closedBits rmX0_closedBits).room s m (([.ref t] : List Value).toArray) below meth c s.heap [] 0 0 Q (F0 m 4 ls []) := by
      intro n1
      induction n1 with
      | zero =>
        intro x2_1 x1_1 ls hl hM
        rw [mX0_closedBits_L1] at hM
        exact mw_none hM
      | succ n1 ih1 =>
        intro x2_1 x1_1 ls hl hM
        rw [mX0_closedBits_L1] at hM
        refine lv_iload_n hx hb dX0_closedBits_4 rfl (lv_at hl 0 rfl) ?_
        refine lv_aload_n hx hb dX0_closedBits_5 rfl (lv_at hl 2 rfl) ?_
        refine va_get (D := D) (ci := 0) (v := .int t_size) (C := RX0) (T := TX0) (N := 5) hx hb hts (fun _ h => List.mem_cons_of_mem _ (List.mem_append_right _ (h))) hown hK hP 0 rfl rfl 4 (by decide) (hts (.fieldLink RX0 24 "MossWall$Clauses" "size" "I") (List.mem_cons_of_mem _ (List.mem_append_left _ (List.mem_of_getElem? (i := 0) rfl)))) (fun _ h9 => h9) rfl dX0_closedBits_6 ?_
        refine lv_icmp_ge (tgt := 32) hx hb dX0_closedBits_9 (by decide) (fun q1 => ?_) (fun q1 => ?_)
        · replace hM := mw_t hM q1
          exact Ek1_32 x2_1 x1_1 _ (lv_sub hl [0, 1, 2] rfl) hM
        · replace hM := mw_f hM q1
          refine lv_aload_n hx hb dX0_closedBits_12 rfl (lv_at hl 2 rfl) ?_
          refine lv_iload_n hx hb dX0_closedBits_13 rfl (lv_at hl 0 rfl) ?_
          obtain ⟨r2, h2, hM⟩ := mw_d1 hM
          have hPc := hP.sub (ws' := [(t, .inr (0, [.ref t_kinds, .ref t_deeps, .ref t_leans, .ref t_moss, .int t_size])), (t_deeps, .inl (cA, 6, .inl c_t_deeps)), (t_moss, .inl (cA, 6, .inl c_t_moss))]) [0, 1, 2] rfl
          refine vp_callSi (va_Run.run (va_runV (As := [.int x2_1]) (rest := []) ⟨hx, hb, hml, hown, hts⟩ (kX0_isClosed l D cA t t_kinds t_deeps t_leans t_moss t_size c_t_deeps c_t_moss x2_1 r2 h2) (cwV 1 hts gX0_closedBits_X0_isClosed rfl rfl rfl (by decide +kernel) ⟨Nat.le_of_ble_eq_true rfl, Nat.le_of_ble_eq_true rfl⟩) ⟨mw_fbR, va_recv hK hP (ci := 0) (q0 := 0) rfl rfl, mw_puR hPc hE⟩ rfl rfl hl.1 rfl (lv_room (Nat.le_of_ble_eq_true rfl)) dX0_closedBits_14 ⟨Nat.zero_le _, Nat.zero_le _⟩)) (fun v_ e_ => ?_)
          obtain ⟨e_, b2⟩ := e_
          subst v_
          refine lv_if_eq (tgt := 26) hx hb dX0_closedBits_17 (by decide) (fun q3 => ?_) (fun q3 => ?_)
          · replace hM := mw_t hM q3
            refine lv_iinc (v := x2_1 + 1) (lv' := [(2, .int (x2_1 + 1)), (1, .int x1_1), (0, .ref t)]) hx hb dX0_closedBits_26 hl (k := 0) rfl (by first | rfl | decide) (by decide) rfl (fun ls hl => ?_)
            refine lv_goto (tgt := 4) hx hb dX0_closedBits_29 (by decide) ?_
            exact ih1 (x2_1 + 1) x1_1 _ (lv_sub hl [0, 1, 2] rfl) hM
          · replace hM := mw_f hM q3
            refine lv_iload_n hx hb dX0_closedBits_20 rfl (lv_at hl 1 rfl) ?_
            refine lv_iconst (v := 1) hx hb dX0_closedBits_21 (by decide) ?_
            refine lv_iload_n hx hb dX0_closedBits_22 rfl (lv_at hl 0 rfl) ?_
            refine lv_ishl hx hb dX0_closedBits_23 ?_
            refine lv_ior hx hb dX0_closedBits_24 ?_
            refine lv_istore_n (lv' := [(1, .int (x1_1 ||| (1 <<< (x2_1 &&& 31)))), (2, .int x2_1), (0, .ref t)]) hx hb dX0_closedBits_25 rfl hl (by decide) rfl (fun ls hl => ?_)
            refine lv_iinc (v := x2_1 + 1) (lv' := [(2, .int (x2_1 + 1)), (1, .int (x1_1 ||| (1 <<< (x2_1 &&& 31)))), (0, .ref t)]) hx hb dX0_closedBits_26 hl (k := 1) rfl (by first | rfl | decide) (by decide) rfl (fun ls hl => ?_)
            refine lv_goto (tgt := 4) hx hb dX0_closedBits_29 (by decide) ?_
            exact ih1 (x2_1 + 1) (x1_1 ||| (1 <<< (x2_1 &&& 31))) _ (lv_sub hl [0, 1, 2] rfl) hM
  exact L1 300 0 0 _ hl (by rw [jk1_32]; exact hM)
def mX0_allClosed (t_size : Int32) (c_t_deeps : Nat → Int32) (c_t_moss : Nat → Int32) : Option Int32 :=
  (mX0_closedBits t_size c_t_deeps c_t_moss).bind fun r1 => (if r1 = ((1 <<< (t_size &&& 31)) - 1) then some 1 else some 0)
abbrev rmX0_allClosed : Room := ({ frames := 3, cells := 0, slots := 0, locals := 64 } : Room)
set_option maxHeartbeats 4000000 in
set_option maxRecDepth 100000 in
theorem kX0_allClosed (l : Launch) (D : va_G) (cA : ClassId) (t t_kinds t_deeps t_leans t_moss : Nat) (t_size : Int32) (c_t_deeps : Nat → Int32) (c_t_moss : Nat → Int32) (r : Int32) (hM : mX0_allClosed t_size c_t_deeps c_t_moss = some r) : Met l yX0_allClosed wsX0_allClosed rmX0_allClosed (va_Pc [.ref t] (fun U => va_P D vwCl [(t, .inr (0, [.ref t_kinds, .ref t_deeps, .ref t_leans, .ref t_moss, .int t_size])), (t_deeps, .inl (cA, 6, .inl c_t_deeps)), (t_moss, .inl (cA, 6, .inl c_t_moss))] U.heap ∧ mw_ev D cA U)) (vp_Si (fun v => v = r ∧ narrow .boolean (.int v) = .int v)) 0 0 (fun _ => False) := by
  unfold mX0_allClosed at hM
  refine Met.ofW (cc := cX0_allClosed) (maxL := 1) (ret := (some .boolean)) (by decide) rfl ?_
  intro p e s m args below meth c s₁ B hml hv
  obtain ⟨rfl, hP, hE⟩ := hv
  have hx := B.exec
  have hb := B.bytes
  have hr := B.returns
  have hts := atoms_spec (ws := wsX0_allClosed) B.pre
  have hown : s.vm.findClass RX0 = some m.cls := findClass_of_methodNamed B.named
  have hlocks := B.notSynchronized
  have hK := hE.1
  have hl := lv_entry ([.ref t]) (n := 1) (Nat.le_of_ble_eq_true rfl)
  rw [lg_entry_eq]
  generalize (lg_sl ([.ref t]) ++ List.replicate (1 - (lg_sl ([.ref t])).length) Slot.unset).toArray = ls at hl ⊢
  have hl : lv_has ls 1 [(0, .ref t)] := hl
  refine mw_q (P := fun Q => W p l e (headSpec wsX0_allClosed rmX0_allClosed).room s m (([.ref t] : List Value).toArray) below meth c s.heap [] 0 0 Q (F0 m 0 ls [])) (fun Q hQ => ?_)
  refine lv_aload_n hx hb dX0_allClosed_0 rfl (lv_at hl 0 rfl) ?_
  obtain ⟨r1, h1, hM⟩ := mw_d1 hM
  have hPc := hP.sub (ws' := [(t, .inr (0, [.ref t_kinds, .ref t_deeps, .ref t_leans, .ref t_moss, .int t_size])), (t_deeps, .inl (cA, 6, .inl c_t_deeps)), (t_moss, .inl (cA, 6, .inl c_t_moss))]) [0, 1, 2] rfl
  refine vp_callSi (va_Run.run (va_runV (As := []) (rest := []) ⟨hx, hb, hml, hown, hts⟩ (kX0_closedBits l D cA t t_kinds t_deeps t_leans t_moss t_size c_t_deeps c_t_moss r1 h1) (cwV 0 hts gX0_allClosed_X0_closedBits rfl rfl rfl (by decide +kernel) ⟨Nat.le_of_ble_eq_true rfl, Nat.le_of_ble_eq_true rfl⟩) ⟨mw_fbR, va_recv hK hP (ci := 0) (q0 := 0) rfl rfl, mw_puR hPc hE⟩ rfl rfl hl.1 rfl (lv_room (Nat.le_of_ble_eq_true rfl)) dX0_allClosed_1 ⟨Nat.zero_le _, Nat.zero_le _⟩)) (fun v_ e_ => ?_)
  subst v_
  refine lv_iconst (v := 1) hx hb dX0_allClosed_4 (by decide) ?_
  refine lv_aload_n hx hb dX0_allClosed_5 rfl (lv_at hl 0 rfl) ?_
  refine va_get (D := D) (ci := 0) (v := .int t_size) (C := RX0) (T := TX0) (N := 5) hx hb hts (fun _ h => List.mem_cons_of_mem _ (List.mem_append_right _ (h))) hown hK hP 0 rfl rfl 4 (by decide) (hts (.fieldLink RX0 24 "MossWall$Clauses" "size" "I") (List.mem_cons_of_mem _ (List.mem_append_left _ (List.mem_of_getElem? (i := 0) rfl)))) (fun _ h9 => h9) rfl dX0_allClosed_6 ?_
  refine lv_ishl hx hb dX0_allClosed_9 ?_
  refine lv_iconst (v := 1) hx hb dX0_allClosed_10 (by decide) ?_
  refine lv_isub hx hb dX0_allClosed_11 ?_
  refine lv_icmp_ne (tgt := 19) hx hb dX0_allClosed_12 (by decide) (fun q2 => ?_) (fun q2 => ?_)
  · replace hM := mw_f hM q2
    refine lv_iconst (v := 0) hx hb dX0_allClosed_19 (by decide) ?_
    obtain rfl := mw_o1 hM
    subst hQ
    exact W.zret hx hb hr rfl (fun t ht hW => ⟨_, rfl, ⟨rfl, rfl⟩, ht⟩) (fun q h => absurd h List.not_mem_nil) dX0_allClosed_20
  · replace hM := mw_t hM q2
    refine lv_iconst (v := 1) hx hb dX0_allClosed_15 (by decide) ?_
    refine lv_goto (tgt := 20) hx hb dX0_allClosed_16 (by decide) ?_
    obtain rfl := mw_o1 hM
    subst hQ
    exact W.zret hx hb hr rfl (fun t ht hW => ⟨_, rfl, ⟨rfl, rfl⟩, ht⟩) (fun q h => absurd h List.not_mem_nil) dX0_allClosed_20
def mX0_forceBits_L1 (t_size : Int32) (c_t_kinds : Nat → Int32) (c_t_deeps : Nat → Int32) (c_t_leans : Nat → Int32) (c_t_moss : Nat → Int32) (k1_75 : Int32 → Int32 → Option Int32) : Nat → Int32 → Int32 → Option Int32
  | 0, _, _ => none
  | n1 + 1, x2_1, x1_1 =>
    (if t_size ≤ x2_1 then k1_75 x2_1 x1_1 else (mw_rd c_t_leans 6 x2_1).bind fun e2 => (if e2 = ((-1)) then (mX0_isClosed t_size c_t_deeps c_t_moss x2_1).bind fun r4 => (if r4 = 0 then mX0_forceBits_L1 t_size c_t_kinds c_t_deeps c_t_leans c_t_moss k1_75 n1 (x2_1 + 1) x1_1 else (mw_rd c_t_kinds 6 x2_1).bind fun e6 => (if e6 = 3 then mX0_forceBits_L1 t_size c_t_kinds c_t_deeps c_t_leans c_t_moss k1_75 n1 (x2_1 + 1) x1_1 else mX0_forceBits_L1 t_size c_t_kinds c_t_deeps c_t_leans c_t_moss k1_75 n1 (x2_1 + 1) (x1_1 ||| (1 <<< (x2_1 &&& 31))))) else (if ((x1_1 >>> (e2 &&& 31)) &&& 1) = 1 then (mX0_isClosed t_size c_t_deeps c_t_moss x2_1).bind fun r9 => (if r9 = 0 then mX0_forceBits_L1 t_size c_t_kinds c_t_deeps c_t_leans c_t_moss k1_75 n1 (x2_1 + 1) x1_1 else (mw_rd c_t_kinds 6 x2_1).bind fun e11 => (if e11 = 3 then mX0_forceBits_L1 t_size c_t_kinds c_t_deeps c_t_leans c_t_moss k1_75 n1 (x2_1 + 1) x1_1 else mX0_forceBits_L1 t_size c_t_kinds c_t_deeps c_t_leans c_t_moss k1_75 n1 (x2_1 + 1) (x1_1 ||| (1 <<< (x2_1 &&& 31))))) else mX0_forceBits_L1 t_size c_t_kinds c_t_deeps c_t_leans c_t_moss k1_75 n1 (x2_1 + 1) x1_1)))
def mX0_forceBits (t_size : Int32) (c_t_kinds : Nat → Int32) (c_t_deeps : Nat → Int32) (c_t_leans : Nat → Int32) (c_t_moss : Nat → Int32) : Option Int32 :=
  mX0_forceBits_L1 t_size c_t_kinds c_t_deeps c_t_leans c_t_moss (fun (x2_1 : Int32) (x1_1 : Int32) => some x1_1) 300 0 0
abbrev rmX0_forceBits : Room := ({ frames := 2, cells := 0, slots := 0, locals := 42 } : Room)
set_option maxHeartbeats 4000000 in
set_option maxRecDepth 100000 in
theorem kX0_forceBits (l : Launch) (D : va_G) (cA : ClassId) (t t_kinds t_deeps t_leans t_moss : Nat) (t_size : Int32) (c_t_kinds : Nat → Int32) (c_t_deeps : Nat → Int32) (c_t_leans : Nat → Int32) (c_t_moss : Nat → Int32) (r : Int32) (hM : mX0_forceBits t_size c_t_kinds c_t_deeps c_t_leans c_t_moss = some r) : Met l yX0_forceBits wsX0_forceBits rmX0_forceBits (va_Pc [.ref t] (fun U => va_P D vwCl [(t, .inr (0, [.ref t_kinds, .ref t_deeps, .ref t_leans, .ref t_moss, .int t_size])), (t_kinds, .inl (cA, 6, .inl c_t_kinds)), (t_deeps, .inl (cA, 6, .inl c_t_deeps)), (t_leans, .inl (cA, 6, .inl c_t_leans)), (t_moss, .inl (cA, 6, .inl c_t_moss))] U.heap ∧ mw_ev D cA U)) (vp_Si (fun v => v = r)) 0 0 (fun _ => False) := by
  unfold mX0_forceBits at hM
  refine Met.ofW (cc := cX0_forceBits) (maxL := 5) (ret := (some .int)) (by decide) rfl ?_
  intro p e s m args below meth c s₁ B hml hv
  obtain ⟨rfl, hP, hE⟩ := hv
  have hx := B.exec
  have hb := B.bytes
  have hr := B.returns
  have hts := atoms_spec (ws := wsX0_forceBits) B.pre
  have hown : s.vm.findClass RX0 = some m.cls := findClass_of_methodNamed B.named
  have hlocks := B.notSynchronized
  have hK := hE.1
  have hl := lv_entry ([.ref t]) (n := 5) (Nat.le_of_ble_eq_true rfl)
  rw [lg_entry_eq]
  generalize (lg_sl ([.ref t]) ++ List.replicate (5 - (lg_sl ([.ref t])).length) Slot.unset).toArray = ls at hl ⊢
  have hl : lv_has ls 5 [(0, .ref t)] := hl
  refine mw_q (P := fun Q => W p l e (headSpec wsX0_forceBits rmX0_forceBits).room s m (([.ref t] : List Value).toArray) below meth c s.heap [] 0 0 Q (F0 m 0 ls [])) (fun Q hQ => ?_)
  refine lv_iconst (v := 0) hx hb dX0_forceBits_0 (by decide) ?_
  refine lv_istore_n (lv' := [(1, .int 0), (0, .ref t)]) hx hb dX0_forceBits_1 rfl hl (by decide) rfl (fun ls hl => ?_)
  refine lv_iconst (v := 0) hx hb dX0_forceBits_2 (by decide) ?_
  refine lv_istore_n (lv' := [(2, .int 0), (1, .int 0), (0, .ref t)]) hx hb dX0_forceBits_3 rfl hl (by decide) rfl (fun ls hl => ?_)
  obtain ⟨k1_75, jk1_75⟩ : ∃ k : Int32 → Int32 → Option Int32, k = fun (x2_1 : Int32) (x1_1 : Int32) => some x1_1 := ⟨_, rfl⟩
  have Ek1_75 : ∀ (x2_1 : Int32) (x1_1 : Int32) (ls : Array Slot), lv_has ls 5 [(2, .int x2_1), (1, .int x1_1), (0, .ref t)] → k1_75 x2_1 x1_1 = some r → W p l e (headSpec wsX0_forceBits rmX0_forceBits).room s m (([.ref t] : List Value).toArray) below meth c s.heap [] 0 0 Q (F0 m 75 ls []) := by
      intro x2_1 x1_1 ls hl hM
      rw [jk1_75] at hM
      refine lv_iload_n hx hb dX0_forceBits_75 rfl (lv_at hl 1 rfl) ?_
      obtain rfl := mw_o1 hM
      subst hQ
      exact W.iret hx hb hr (fun t ht hW => ⟨_, rfl, rfl, ht⟩) (fun q h => absurd h List.not_mem_nil) dX0_forceBits_76
  have L1 : ∀ (n1 : Nat) (x2_1 : Int32) (x1_1 : Int32) (ls : Array Slot), lv_has ls 5 [(2, .int x2_1), (1, .int x1_1), (0, .ref t)] → mX0_forceBits_L1 t_size c_t_kinds c_t_deeps c_t_leans c_t_moss k1_75 n1 x2_1 x1_1 = some r → W p l e (headSpec wsX0_forceBits rmX0_forceBits).room s m (([.ref t] : List Value).toArray) below meth c s.heap [] 0 0 Q (F0 m 4 ls []) := by
      intro n1
      induction n1 with
      | zero =>
        intro x2_1 x1_1 ls hl hM
        rw [mX0_forceBits_L1] at hM
        exact mw_none hM
      | succ n1 ih1 =>
        intro x2_1 x1_1 ls hl hM
        rw [mX0_forceBits_L1] at hM
        refine lv_iload_n hx hb dX0_forceBits_4 rfl (lv_at hl 0 rfl) ?_
        refine lv_aload_n hx hb dX0_forceBits_5 rfl (lv_at hl 2 rfl) ?_
        refine va_get (D := D) (ci := 0) (v := .int t_size) (C := RX0) (T := TX0) (N := 5) hx hb hts (fun _ h => List.mem_cons_of_mem _ (List.mem_append_right _ (h))) hown hK hP 0 rfl rfl 4 (by decide) (hts (.fieldLink RX0 24 "MossWall$Clauses" "size" "I") (List.mem_cons_of_mem _ (List.mem_append_left _ (List.mem_of_getElem? (i := 0) rfl)))) (fun _ h9 => h9) rfl dX0_forceBits_6 ?_
        refine lv_icmp_ge (tgt := 75) hx hb dX0_forceBits_9 (by decide) (fun q1 => ?_) (fun q1 => ?_)
        · replace hM := mw_t hM q1
          exact Ek1_75 x2_1 x1_1 _ (lv_sub hl [0, 1, 2] rfl) hM
        · replace hM := mw_f hM q1
          refine lv_aload_n hx hb dX0_forceBits_12 rfl (lv_at hl 2 rfl) ?_
          refine va_get (D := D) (ci := 0) (v := .ref t_leans) (C := RX0) (T := TX0) (N := 5) hx hb hts (fun _ h => List.mem_cons_of_mem _ (List.mem_append_right _ (h))) hown hK hP 0 rfl rfl 2 (by decide) (hts (.fieldLink RX0 18 "MossWall$Clauses" "leans" "[I") (List.mem_cons_of_mem _ (List.mem_append_left _ (List.mem_of_getElem? (i := 1) rfl)))) (fun _ h9 => h9) rfl dX0_forceBits_13 ?_
          refine lv_iload_n hx hb dX0_forceBits_16 rfl (lv_at hl 0 rfl) ?_
          obtain ⟨e2, h2, hM⟩ := mw_d1 hM
          refine mw_iald hx hb hK hP 3 0 rfl rfl h2 dX0_forceBits_17 ?_
          refine lv_istore_n (lv' := [(3, .int e2), (2, .int x2_1), (1, .int x1_1), (0, .ref t)]) hx hb dX0_forceBits_18 rfl hl (by decide) rfl (fun ls hl => ?_)
          refine lv_iload_n hx hb dX0_forceBits_19 rfl (lv_at hl 0 rfl) ?_
          refine lv_iconst (v := (-1)) hx hb dX0_forceBits_20 (by decide) ?_
          refine lv_icmp_eq (tgt := 33) hx hb dX0_forceBits_21 (by decide) (fun q3 => ?_) (fun q3 => ?_)
          · replace hM := mw_t hM q3
            refine lv_iconst (v := 1) hx hb dX0_forceBits_33 (by decide) ?_
            refine lv_goto (tgt := 38) hx hb dX0_forceBits_34 (by decide) ?_
            refine lv_istore (lv' := [(4, .int 1), (3, .int e2), (2, .int x2_1), (1, .int x1_1), (0, .ref t)]) hx hb dX0_forceBits_38 hl (by decide) rfl (fun ls hl => ?_)
            refine lv_iload hx hb dX0_forceBits_40 (lv_at hl 0 rfl) ?_
            refine lv_if_eq (tgt := 69) hx hb dX0_forceBits_42 (by decide) (fun h => absurd h (by decide)) (fun _ => ?_)
            refine lv_aload_n hx hb dX0_forceBits_45 rfl (lv_at hl 4 rfl) ?_
            refine lv_iload_n hx hb dX0_forceBits_46 rfl (lv_at hl 2 rfl) ?_
            obtain ⟨r4, h4, hM⟩ := mw_d1 hM
            have hPc := hP.sub (ws' := [(t, .inr (0, [.ref t_kinds, .ref t_deeps, .ref t_leans, .ref t_moss, .int t_size])), (t_deeps, .inl (cA, 6, .inl c_t_deeps)), (t_moss, .inl (cA, 6, .inl c_t_moss))]) [0, 2, 4] rfl
            refine vp_callSi (va_Run.run (va_runV (As := [.int x2_1]) (rest := []) ⟨hx, hb, hml, hown, hts⟩ (kX0_isClosed l D cA t t_kinds t_deeps t_leans t_moss t_size c_t_deeps c_t_moss x2_1 r4 h4) (cwV 1 hts gX0_forceBits_X0_isClosed rfl rfl rfl (by decide +kernel) ⟨Nat.le_of_ble_eq_true rfl, Nat.le_of_ble_eq_true rfl⟩) ⟨mw_fbR, va_recv hK hP (ci := 0) (q0 := 0) rfl rfl, mw_puR hPc hE⟩ rfl rfl hl.1 rfl (lv_room (Nat.le_of_ble_eq_true rfl)) dX0_forceBits_47 ⟨Nat.zero_le _, Nat.zero_le _⟩)) (fun v_ e_ => ?_)
            obtain ⟨e_, b4⟩ := e_
            subst v_
            refine lv_if_eq (tgt := 69) hx hb dX0_forceBits_50 (by decide) (fun q5 => ?_) (fun q5 => ?_)
            · replace hM := mw_t hM q5
              refine lv_iinc (v := x2_1 + 1) (lv' := [(2, .int (x2_1 + 1)), (4, .int 1), (3, .int e2), (1, .int x1_1), (0, .ref t)]) hx hb dX0_forceBits_69 hl (k := 2) rfl (by first | rfl | decide) (by decide) rfl (fun ls hl => ?_)
              refine lv_goto (tgt := 4) hx hb dX0_forceBits_72 (by decide) ?_
              exact ih1 (x2_1 + 1) x1_1 _ (lv_sub hl [0, 3, 4] rfl) hM
            · replace hM := mw_f hM q5
              refine lv_aload_n hx hb dX0_forceBits_53 rfl (lv_at hl 4 rfl) ?_
              refine va_get (D := D) (ci := 0) (v := .ref t_kinds) (C := RX0) (T := TX0) (N := 5) hx hb hts (fun _ h => List.mem_cons_of_mem _ (List.mem_append_right _ (h))) hown hK hP 0 rfl rfl 0 (by decide) (hts (.fieldLink RX0 9 "MossWall$Clauses" "kinds" "[I") (List.mem_cons_of_mem _ (List.mem_append_left _ (List.mem_of_getElem? (i := 2) rfl)))) (fun _ h9 => h9) rfl dX0_forceBits_54 ?_
              refine lv_iload_n hx hb dX0_forceBits_57 rfl (lv_at hl 2 rfl) ?_
              obtain ⟨e6, h6, hM⟩ := mw_d1 hM
              refine mw_iald hx hb hK hP 1 0 rfl rfl h6 dX0_forceBits_58 ?_
              refine lv_iconst (v := 3) hx hb dX0_forceBits_59 (by decide) ?_
              refine lv_icmp_eq (tgt := 69) hx hb dX0_forceBits_60 (by decide) (fun q7 => ?_) (fun q7 => ?_)
              · replace hM := mw_t hM q7
                refine lv_iinc (v := x2_1 + 1) (lv' := [(2, .int (x2_1 + 1)), (4, .int 1), (3, .int e2), (1, .int x1_1), (0, .ref t)]) hx hb dX0_forceBits_69 hl (k := 2) rfl (by first | rfl | decide) (by decide) rfl (fun ls hl => ?_)
                refine lv_goto (tgt := 4) hx hb dX0_forceBits_72 (by decide) ?_
                exact ih1 (x2_1 + 1) x1_1 _ (lv_sub hl [0, 3, 4] rfl) hM
              · replace hM := mw_f hM q7
                refine lv_iload_n hx hb dX0_forceBits_63 rfl (lv_at hl 3 rfl) ?_
                refine lv_iconst (v := 1) hx hb dX0_forceBits_64 (by decide) ?_
                refine lv_iload_n hx hb dX0_forceBits_65 rfl (lv_at hl 2 rfl) ?_
                refine lv_ishl hx hb dX0_forceBits_66 ?_
                refine lv_ior hx hb dX0_forceBits_67 ?_
                refine lv_istore_n (lv' := [(1, .int (x1_1 ||| (1 <<< (x2_1 &&& 31)))), (4, .int 1), (3, .int e2), (2, .int x2_1), (0, .ref t)]) hx hb dX0_forceBits_68 rfl hl (by decide) rfl (fun ls hl => ?_)
                refine lv_iinc (v := x2_1 + 1) (lv' := [(2, .int (x2_1 + 1)), (1, .int (x1_1 ||| (1 <<< (x2_1 &&& 31)))), (4, .int 1), (3, .int e2), (0, .ref t)]) hx hb dX0_forceBits_69 hl (k := 3) rfl (by first | rfl | decide) (by decide) rfl (fun ls hl => ?_)
                refine lv_goto (tgt := 4) hx hb dX0_forceBits_72 (by decide) ?_
                exact ih1 (x2_1 + 1) (x1_1 ||| (1 <<< (x2_1 &&& 31))) _ (lv_sub hl [0, 1, 4] rfl) hM
          · replace hM := mw_f hM q3
            refine lv_iload_n hx hb dX0_forceBits_24 rfl (lv_at hl 2 rfl) ?_
            refine lv_iload_n hx hb dX0_forceBits_25 rfl (lv_at hl 0 rfl) ?_
            refine lv_ishr hx hb dX0_forceBits_26 ?_
            refine lv_iconst (v := 1) hx hb dX0_forceBits_27 (by decide) ?_
            refine lv_iand hx hb dX0_forceBits_28 ?_
            refine lv_iconst (v := 1) hx hb dX0_forceBits_29 (by decide) ?_
            refine lv_icmp_ne (tgt := 37) hx hb dX0_forceBits_30 (by decide) (fun q8 => ?_) (fun q8 => ?_)
            · replace hM := mw_f hM q8
              refine lv_iconst (v := 0) hx hb dX0_forceBits_37 (by decide) ?_
              refine lv_istore (lv' := [(4, .int 0), (3, .int e2), (2, .int x2_1), (1, .int x1_1), (0, .ref t)]) hx hb dX0_forceBits_38 hl (by decide) rfl (fun ls hl => ?_)
              refine lv_iload hx hb dX0_forceBits_40 (lv_at hl 0 rfl) ?_
              refine lv_if_eq (tgt := 69) hx hb dX0_forceBits_42 (by decide) (fun _ => ?_) (fun h => absurd (by decide) h)
              refine lv_iinc (v := x2_1 + 1) (lv' := [(2, .int (x2_1 + 1)), (4, .int 0), (3, .int e2), (1, .int x1_1), (0, .ref t)]) hx hb dX0_forceBits_69 hl (k := 2) rfl (by first | rfl | decide) (by decide) rfl (fun ls hl => ?_)
              refine lv_goto (tgt := 4) hx hb dX0_forceBits_72 (by decide) ?_
              exact ih1 (x2_1 + 1) x1_1 _ (lv_sub hl [0, 3, 4] rfl) hM
            · replace hM := mw_t hM q8
              refine lv_iconst (v := 1) hx hb dX0_forceBits_33 (by decide) ?_
              refine lv_goto (tgt := 38) hx hb dX0_forceBits_34 (by decide) ?_
              refine lv_istore (lv' := [(4, .int 1), (3, .int e2), (2, .int x2_1), (1, .int x1_1), (0, .ref t)]) hx hb dX0_forceBits_38 hl (by decide) rfl (fun ls hl => ?_)
              refine lv_iload hx hb dX0_forceBits_40 (lv_at hl 0 rfl) ?_
              refine lv_if_eq (tgt := 69) hx hb dX0_forceBits_42 (by decide) (fun h => absurd h (by decide)) (fun _ => ?_)
              refine lv_aload_n hx hb dX0_forceBits_45 rfl (lv_at hl 4 rfl) ?_
              refine lv_iload_n hx hb dX0_forceBits_46 rfl (lv_at hl 2 rfl) ?_
              obtain ⟨r9, h9, hM⟩ := mw_d1 hM
              have hPc := hP.sub (ws' := [(t, .inr (0, [.ref t_kinds, .ref t_deeps, .ref t_leans, .ref t_moss, .int t_size])), (t_deeps, .inl (cA, 6, .inl c_t_deeps)), (t_moss, .inl (cA, 6, .inl c_t_moss))]) [0, 2, 4] rfl
              refine vp_callSi (va_Run.run (va_runV (As := [.int x2_1]) (rest := []) ⟨hx, hb, hml, hown, hts⟩ (kX0_isClosed l D cA t t_kinds t_deeps t_leans t_moss t_size c_t_deeps c_t_moss x2_1 r9 h9) (cwV 1 hts gX0_forceBits_X0_isClosed rfl rfl rfl (by decide +kernel) ⟨Nat.le_of_ble_eq_true rfl, Nat.le_of_ble_eq_true rfl⟩) ⟨mw_fbR, va_recv hK hP (ci := 0) (q0 := 0) rfl rfl, mw_puR hPc hE⟩ rfl rfl hl.1 rfl (lv_room (Nat.le_of_ble_eq_true rfl)) dX0_forceBits_47 ⟨Nat.zero_le _, Nat.zero_le _⟩)) (fun v_ e_ => ?_)
              obtain ⟨e_, b9⟩ := e_
              subst v_
              refine lv_if_eq (tgt := 69) hx hb dX0_forceBits_50 (by decide) (fun q10 => ?_) (fun q10 => ?_)
              · replace hM := mw_t hM q10
                refine lv_iinc (v := x2_1 + 1) (lv' := [(2, .int (x2_1 + 1)), (4, .int 1), (3, .int e2), (1, .int x1_1), (0, .ref t)]) hx hb dX0_forceBits_69 hl (k := 2) rfl (by first | rfl | decide) (by decide) rfl (fun ls hl => ?_)
                refine lv_goto (tgt := 4) hx hb dX0_forceBits_72 (by decide) ?_
                exact ih1 (x2_1 + 1) x1_1 _ (lv_sub hl [0, 3, 4] rfl) hM
              · replace hM := mw_f hM q10
                refine lv_aload_n hx hb dX0_forceBits_53 rfl (lv_at hl 4 rfl) ?_
                refine va_get (D := D) (ci := 0) (v := .ref t_kinds) (C := RX0) (T := TX0) (N := 5) hx hb hts (fun _ h => List.mem_cons_of_mem _ (List.mem_append_right _ (h))) hown hK hP 0 rfl rfl 0 (by decide) (hts (.fieldLink RX0 9 "MossWall$Clauses" "kinds" "[I") (List.mem_cons_of_mem _ (List.mem_append_left _ (List.mem_of_getElem? (i := 2) rfl)))) (fun _ h9 => h9) rfl dX0_forceBits_54 ?_
                refine lv_iload_n hx hb dX0_forceBits_57 rfl (lv_at hl 2 rfl) ?_
                obtain ⟨e11, h11, hM⟩ := mw_d1 hM
                refine mw_iald hx hb hK hP 1 0 rfl rfl h11 dX0_forceBits_58 ?_
                refine lv_iconst (v := 3) hx hb dX0_forceBits_59 (by decide) ?_
                refine lv_icmp_eq (tgt := 69) hx hb dX0_forceBits_60 (by decide) (fun q12 => ?_) (fun q12 => ?_)
                · replace hM := mw_t hM q12
                  refine lv_iinc (v := x2_1 + 1) (lv' := [(2, .int (x2_1 + 1)), (4, .int 1), (3, .int e2), (1, .int x1_1), (0, .ref t)]) hx hb dX0_forceBits_69 hl (k := 2) rfl (by first | rfl | decide) (by decide) rfl (fun ls hl => ?_)
                  refine lv_goto (tgt := 4) hx hb dX0_forceBits_72 (by decide) ?_
                  exact ih1 (x2_1 + 1) x1_1 _ (lv_sub hl [0, 3, 4] rfl) hM
                · replace hM := mw_f hM q12
                  refine lv_iload_n hx hb dX0_forceBits_63 rfl (lv_at hl 3 rfl) ?_
                  refine lv_iconst (v := 1) hx hb dX0_forceBits_64 (by decide) ?_
                  refine lv_iload_n hx hb dX0_forceBits_65 rfl (lv_at hl 2 rfl) ?_
                  refine lv_ishl hx hb dX0_forceBits_66 ?_
                  refine lv_ior hx hb dX0_forceBits_67 ?_
                  refine lv_istore_n (lv' := [(1, .int (x1_1 ||| (1 <<< (x2_1 &&& 31)))), (4, .int 1), (3, .int e2), (2, .int x2_1), (0, .ref t)]) hx hb dX0_forceBits_68 rfl hl (by decide) rfl (fun ls hl => ?_)
                  refine lv_iinc (v := x2_1 + 1) (lv' := [(2, .int (x2_1 + 1)), (1, .int (x1_1 ||| (1 <<< (x2_1 &&& 31)))), (4, .int 1), (3, .int e2), (0, .ref t)]) hx hb dX0_forceBits_69 hl (k := 3) rfl (by first | rfl | decide) (by decide) rfl (fun ls hl => ?_)
                  refine lv_goto (tgt := 4) hx hb dX0_forceBits_72 (by decide) ?_
                  exact ih1 (x2_1 + 1) (x1_1 ||| (1 <<< (x2_1 &&& 31))) _ (lv_sub hl [0, 1, 4] rfl) hM
  exact L1 300 0 0 _ hl (by rw [jk1_75]; exact hM)
def mX0_mossOfAll_L1 (t_size : Int32) (c_t_moss : Nat → Int32) (k1_26 : Int32 → Int32 → Option Int32) : Nat → Int32 → Int32 → Option Int32
  | 0, _, _ => none
  | n1 + 1, x2_1, x1_1 =>
    (if t_size ≤ x2_1 then k1_26 x2_1 x1_1 else (mX0_mossOn t_size c_t_moss x2_1).bind fun r2 => mX0_mossOfAll_L1 t_size c_t_moss k1_26 n1 (x2_1 + 1) (x1_1 + r2))
def mX0_mossOfAll (t_size : Int32) (c_t_moss : Nat → Int32) : Option Int32 :=
  mX0_mossOfAll_L1 t_size c_t_moss (fun (x2_1 : Int32) (x1_1 : Int32) => some x1_1) 300 0 0
abbrev rmX0_mossOfAll : Room := ({ frames := 2, cells := 0, slots := 0, locals := 42 } : Room)
set_option maxHeartbeats 4000000 in
set_option maxRecDepth 100000 in
theorem kX0_mossOfAll (l : Launch) (D : va_G) (cA : ClassId) (t t_kinds t_deeps t_leans t_moss : Nat) (t_size : Int32) (c_t_moss : Nat → Int32) (r : Int32) (hM : mX0_mossOfAll t_size c_t_moss = some r) : Met l yX0_mossOfAll wsX0_mossOfAll rmX0_mossOfAll (va_Pc [.ref t] (fun U => va_P D vwCl [(t, .inr (0, [.ref t_kinds, .ref t_deeps, .ref t_leans, .ref t_moss, .int t_size])), (t_moss, .inl (cA, 6, .inl c_t_moss))] U.heap ∧ mw_ev D cA U)) (vp_Si (fun v => v = r)) 0 0 (fun _ => False) := by
  unfold mX0_mossOfAll at hM
  refine Met.ofW (cc := cX0_mossOfAll) (maxL := 3) (ret := (some .int)) (by decide) rfl ?_
  intro p e s m args below meth c s₁ B hml hv
  obtain ⟨rfl, hP, hE⟩ := hv
  have hx := B.exec
  have hb := B.bytes
  have hr := B.returns
  have hts := atoms_spec (ws := wsX0_mossOfAll) B.pre
  have hown : s.vm.findClass RX0 = some m.cls := findClass_of_methodNamed B.named
  have hlocks := B.notSynchronized
  have hK := hE.1
  have hl := lv_entry ([.ref t]) (n := 3) (Nat.le_of_ble_eq_true rfl)
  rw [lg_entry_eq]
  generalize (lg_sl ([.ref t]) ++ List.replicate (3 - (lg_sl ([.ref t])).length) Slot.unset).toArray = ls at hl ⊢
  have hl : lv_has ls 3 [(0, .ref t)] := hl
  refine mw_q (P := fun Q => W p l e (headSpec wsX0_mossOfAll rmX0_mossOfAll).room s m (([.ref t] : List Value).toArray) below meth c s.heap [] 0 0 Q (F0 m 0 ls [])) (fun Q hQ => ?_)
  refine lv_iconst (v := 0) hx hb dX0_mossOfAll_0 (by decide) ?_
  refine lv_istore_n (lv' := [(1, .int 0), (0, .ref t)]) hx hb dX0_mossOfAll_1 rfl hl (by decide) rfl (fun ls hl => ?_)
  refine lv_iconst (v := 0) hx hb dX0_mossOfAll_2 (by decide) ?_
  refine lv_istore_n (lv' := [(2, .int 0), (1, .int 0), (0, .ref t)]) hx hb dX0_mossOfAll_3 rfl hl (by decide) rfl (fun ls hl => ?_)
  obtain ⟨k1_26, jk1_26⟩ : ∃ k : Int32 → Int32 → Option Int32, k = fun (x2_1 : Int32) (x1_1 : Int32) => some x1_1 := ⟨_, rfl⟩
  have Ek1_26 : ∀ (x2_1 : Int32) (x1_1 : Int32) (ls : Array Slot), lv_has ls 3 [(2, .int x2_1), (1, .int x1_1), (0, .ref t)] → k1_26 x2_1 x1_1 = some r → W p l e (headSpec wsX0_mossOfAll rmX0_mossOfAll).room s m (([.ref t] : List Value).toArray) below meth c s.heap [] 0 0 Q (F0 m 26 ls []) := by
      intro x2_1 x1_1 ls hl hM
      rw [jk1_26] at hM
      refine lv_iload_n hx hb dX0_mossOfAll_26 rfl (lv_at hl 1 rfl) ?_
      obtain rfl := mw_o1 hM
      subst hQ
      exact W.iret hx hb hr (fun t ht hW => ⟨_, rfl, rfl, ht⟩) (fun q h => absurd h List.not_mem_nil) dX0_mossOfAll_27
  have L1 : ∀ (n1 : Nat) (x2_1 : Int32) (x1_1 : Int32) (ls : Array Slot), lv_has ls 3 [(2, .int x2_1), (1, .int x1_1), (0, .ref t)] → mX0_mossOfAll_L1 t_size c_t_moss k1_26 n1 x2_1 x1_1 = some r → W p l e (headSpec wsX0_mossOfAll rmX0_mossOfAll).room s m (([.ref t] : List Value).toArray) below meth c s.heap [] 0 0 Q (F0 m 4 ls []) := by
      intro n1
      induction n1 with
      | zero =>
        intro x2_1 x1_1 ls hl hM
        rw [mX0_mossOfAll_L1] at hM
        exact mw_none hM
      | succ n1 ih1 =>
        intro x2_1 x1_1 ls hl hM
        rw [mX0_mossOfAll_L1] at hM
        refine lv_iload_n hx hb dX0_mossOfAll_4 rfl (lv_at hl 0 rfl) ?_
        refine lv_aload_n hx hb dX0_mossOfAll_5 rfl (lv_at hl 2 rfl) ?_
        refine va_get (D := D) (ci := 0) (v := .int t_size) (C := RX0) (T := TX0) (N := 5) hx hb hts (fun _ h => List.mem_cons_of_mem _ (List.mem_append_right _ (h))) hown hK hP 0 rfl rfl 4 (by decide) (hts (.fieldLink RX0 24 "MossWall$Clauses" "size" "I") (List.mem_cons_of_mem _ (List.mem_append_left _ (List.mem_of_getElem? (i := 0) rfl)))) (fun _ h9 => h9) rfl dX0_mossOfAll_6 ?_
        refine lv_icmp_ge (tgt := 26) hx hb dX0_mossOfAll_9 (by decide) (fun q1 => ?_) (fun q1 => ?_)
        · replace hM := mw_t hM q1
          exact Ek1_26 x2_1 x1_1 _ (lv_sub hl [0, 1, 2] rfl) hM
        · replace hM := mw_f hM q1
          refine lv_iload_n hx hb dX0_mossOfAll_12 rfl (lv_at hl 1 rfl) ?_
          refine lv_aload_n hx hb dX0_mossOfAll_13 rfl (lv_at hl 2 rfl) ?_
          refine lv_iload_n hx hb dX0_mossOfAll_14 rfl (lv_at hl 0 rfl) ?_
          obtain ⟨r2, h2, hM⟩ := mw_d1 hM
          have hPc := hP.sub (ws' := [(t, .inr (0, [.ref t_kinds, .ref t_deeps, .ref t_leans, .ref t_moss, .int t_size])), (t_moss, .inl (cA, 6, .inl c_t_moss))]) [0, 1] rfl
          refine vp_callSi (va_Run.run (va_runV (As := [.int x2_1]) (rest := [.int x1_1]) ⟨hx, hb, hml, hown, hts⟩ (kX0_mossOn l D cA t t_kinds t_deeps t_leans t_moss t_size c_t_moss x2_1 r2 h2) (cwV 1 hts gX0_mossOfAll_X0_mossOn rfl rfl rfl (by decide +kernel) ⟨Nat.le_of_ble_eq_true rfl, Nat.le_of_ble_eq_true rfl⟩) ⟨mw_fbR, va_recv hK hP (ci := 0) (q0 := 0) rfl rfl, mw_puR hPc hE⟩ rfl rfl hl.1 rfl (lv_room (Nat.le_of_ble_eq_true rfl)) dX0_mossOfAll_15 ⟨Nat.zero_le _, Nat.zero_le _⟩)) (fun v_ e_ => ?_)
          subst v_
          refine lv_iadd hx hb dX0_mossOfAll_18 ?_
          refine lv_istore_n (lv' := [(1, .int (x1_1 + r2)), (2, .int x2_1), (0, .ref t)]) hx hb dX0_mossOfAll_19 rfl hl (by decide) rfl (fun ls hl => ?_)
          refine lv_iinc (v := x2_1 + 1) (lv' := [(2, .int (x2_1 + 1)), (1, .int (x1_1 + r2)), (0, .ref t)]) hx hb dX0_mossOfAll_20 hl (k := 1) rfl (by first | rfl | decide) (by decide) rfl (fun ls hl => ?_)
          refine lv_goto (tgt := 4) hx hb dX0_mossOfAll_23 (by decide) ?_
          exact ih1 (x2_1 + 1) (x1_1 + r2) _ (lv_sub hl [0, 1, 2] rfl) hM
  exact L1 300 0 0 _ hl (by rw [jk1_26]; exact hM)
def mX0_winningTurn_L3 (x1_1 : Int32) (x2_2 : Int32) (r5 : Int32) (k3_97 : Int32 → Option Int32) : Nat → Int32 → Option Int32
  | 0, _ => none
  | n3 + 1, x5_3 =>
    (if 2 < x5_3 then k3_97 x5_3 else (if r5 < x5_3 then k3_97 x5_3 else (if (mw_re (r5 - x5_3) 3) = (x1_1 ^^^ (mw_re r5 3)) then some ((10 * x2_2) + x5_3) else mX0_winningTurn_L3 x1_1 x2_2 r5 k3_97 n3 (x5_3 + 1))))
def mX0_winningTurn_L2 (t_size : Int32) (c_t_deeps : Nat → Int32) (c_t_moss : Nat → Int32) (x1_1 : Int32) (k2_103 : Int32 → Option Int32) : Nat → Int32 → Option Int32
  | 0, _ => none
  | n2 + 1, x2_2 =>
    (if t_size ≤ x2_2 then k2_103 x2_2 else (mX0_lacking t_size c_t_deeps c_t_moss x2_2).bind fun r5 => mX0_winningTurn_L3 x1_1 x2_2 r5 (fun (x5_3 : Int32) => mX0_winningTurn_L2 t_size c_t_deeps c_t_moss x1_1 k2_103 n2 (x2_2 + 1)) 300 1)
def mX0_winningTurn_L1 (t_size : Int32) (c_t_deeps : Nat → Int32) (c_t_moss : Nat → Int32) (k1_28 : Int32 → Int32 → Option Int32) : Nat → Int32 → Int32 → Option Int32
  | 0, _, _ => none
  | n1 + 1, x2_1, x1_1 =>
    (if t_size ≤ x2_1 then k1_28 x2_1 x1_1 else (mX0_lacking t_size c_t_deeps c_t_moss x2_1).bind fun r2 => mX0_winningTurn_L1 t_size c_t_deeps c_t_moss k1_28 n1 (x2_1 + 1) (x1_1 ^^^ (mw_re r2 3)))
def mX0_winningTurn (t_size : Int32) (c_t_deeps : Nat → Int32) (c_t_moss : Nat → Int32) : Option Int32 :=
  mX0_winningTurn_L1 t_size c_t_deeps c_t_moss (fun (x2_1 : Int32) (x1_1 : Int32) => (if x1_1 = 0 then some ((-1)) else mX0_winningTurn_L2 t_size c_t_deeps c_t_moss x1_1 (fun (x2_2 : Int32) => some ((-1))) 300 0)) 300 0 0
abbrev rmX0_winningTurn : Room := ({ frames := 2, cells := 0, slots := 0, locals := 42 } : Room)
set_option maxHeartbeats 4000000 in
set_option maxRecDepth 100000 in
theorem kX0_winningTurn (l : Launch) (D : va_G) (cA : ClassId) (t t_kinds t_deeps t_leans t_moss : Nat) (t_size : Int32) (c_t_deeps : Nat → Int32) (c_t_moss : Nat → Int32) (r : Int32) (hM : mX0_winningTurn t_size c_t_deeps c_t_moss = some r) : Met l yX0_winningTurn wsX0_winningTurn rmX0_winningTurn (va_Pc [.ref t] (fun U => va_P D vwCl [(t, .inr (0, [.ref t_kinds, .ref t_deeps, .ref t_leans, .ref t_moss, .int t_size])), (t_deeps, .inl (cA, 6, .inl c_t_deeps)), (t_moss, .inl (cA, 6, .inl c_t_moss))] U.heap ∧ mw_ev D cA U)) (vp_Si (fun v => v = r)) 0 0 (fun _ => False) := by
  unfold mX0_winningTurn at hM
  refine Met.ofW (cc := cX0_winningTurn) (maxL := 6) (ret := (some .int)) (by decide) rfl ?_
  intro p e s m args below meth c s₁ B hml hv
  obtain ⟨rfl, hP, hE⟩ := hv
  have hx := B.exec
  have hb := B.bytes
  have hr := B.returns
  have hts := atoms_spec (ws := wsX0_winningTurn) B.pre
  have hown : s.vm.findClass RX0 = some m.cls := findClass_of_methodNamed B.named
  have hlocks := B.notSynchronized
  have hK := hE.1
  have hl := lv_entry ([.ref t]) (n := 6) (Nat.le_of_ble_eq_true rfl)
  rw [lg_entry_eq]
  generalize (lg_sl ([.ref t]) ++ List.replicate (6 - (lg_sl ([.ref t])).length) Slot.unset).toArray = ls at hl ⊢
  have hl : lv_has ls 6 [(0, .ref t)] := hl
  refine mw_q (P := fun Q => W p l e (headSpec wsX0_winningTurn rmX0_winningTurn).room s m (([.ref t] : List Value).toArray) below meth c s.heap [] 0 0 Q (F0 m 0 ls [])) (fun Q hQ => ?_)
  refine lv_iconst (v := 0) hx hb dX0_winningTurn_0 (by decide) ?_
  refine lv_istore_n (lv' := [(1, .int 0), (0, .ref t)]) hx hb dX0_winningTurn_1 rfl hl (by decide) rfl (fun ls hl => ?_)
  refine lv_iconst (v := 0) hx hb dX0_winningTurn_2 (by decide) ?_
  refine lv_istore_n (lv' := [(2, .int 0), (1, .int 0), (0, .ref t)]) hx hb dX0_winningTurn_3 rfl hl (by decide) rfl (fun ls hl => ?_)
  obtain ⟨k1_28, jk1_28⟩ : ∃ k : Int32 → Int32 → Option Int32, k = fun (x2_1 : Int32) (x1_1 : Int32) => (if x1_1 = 0 then some ((-1)) else mX0_winningTurn_L2 t_size c_t_deeps c_t_moss x1_1 (fun (x2_2 : Int32) => some ((-1))) 300 0) := ⟨_, rfl⟩
  have Ek1_28 : ∀ (x2_1 : Int32) (x1_1 : Int32) (ls : Array Slot), lv_has ls 6 [(2, .int x2_1), (1, .int x1_1), (0, .ref t)] → k1_28 x2_1 x1_1 = some r → W p l e (headSpec wsX0_winningTurn rmX0_winningTurn).room s m (([.ref t] : List Value).toArray) below meth c s.heap [] 0 0 Q (F0 m 28 ls []) := by
      intro x2_1 x1_1 ls hl hM
      rw [jk1_28] at hM
      refine lv_iload_n hx hb dX0_winningTurn_28 rfl (lv_at hl 1 rfl) ?_
      refine lv_if_ne (tgt := 34) hx hb dX0_winningTurn_29 (by decide) (fun q3 => ?_) (fun q3 => ?_)
      · replace hM := mw_f hM q3
        refine lv_iconst (v := 0) hx hb dX0_winningTurn_34 (by decide) ?_
        refine lv_istore_n (lv' := [(2, .int 0), (1, .int x1_1), (0, .ref t)]) hx hb dX0_winningTurn_35 rfl hl (by decide) rfl (fun ls hl => ?_)
        obtain ⟨k2_103, jk2_103⟩ : ∃ k : Int32 → Option Int32, k = fun (x2_2 : Int32) => some ((-1)) := ⟨_, rfl⟩
        have Ek2_103 : ∀ (x2_2 : Int32) (ls : Array Slot), lv_has ls 6 [(2, .int x2_2), (1, .int x1_1), (0, .ref t)] → k2_103 x2_2 = some r → W p l e (headSpec wsX0_winningTurn rmX0_winningTurn).room s m (([.ref t] : List Value).toArray) below meth c s.heap [] 0 0 Q (F0 m 103 ls []) := by
            intro x2_2 ls hl hM
            rw [jk2_103] at hM
            refine lv_iconst (v := (-1)) hx hb dX0_winningTurn_103 (by decide) ?_
            obtain rfl := mw_o1 hM
            subst hQ
            exact W.iret hx hb hr (fun t ht hW => ⟨_, rfl, rfl, ht⟩) (fun q h => absurd h List.not_mem_nil) dX0_winningTurn_104
        have L2 : ∀ (n2 : Nat) (x2_2 : Int32) (ls : Array Slot), lv_has ls 6 [(2, .int x2_2), (1, .int x1_1), (0, .ref t)] → mX0_winningTurn_L2 t_size c_t_deeps c_t_moss x1_1 k2_103 n2 x2_2 = some r → W p l e (headSpec wsX0_winningTurn rmX0_winningTurn).room s m (([.ref t] : List Value).toArray) below meth c s.heap [] 0 0 Q (F0 m 36 ls []) := by
            intro n2
            induction n2 with
            | zero =>
              intro x2_2 ls hl hM
              rw [mX0_winningTurn_L2] at hM
              exact mw_none hM
            | succ n2 ih2 =>
              intro x2_2 ls hl hM
              rw [mX0_winningTurn_L2] at hM
              refine lv_iload_n hx hb dX0_winningTurn_36 rfl (lv_at hl 0 rfl) ?_
              refine lv_aload_n hx hb dX0_winningTurn_37 rfl (lv_at hl 2 rfl) ?_
              refine va_get (D := D) (ci := 0) (v := .int t_size) (C := RX0) (T := TX0) (N := 5) hx hb hts (fun _ h => List.mem_cons_of_mem _ (List.mem_append_right _ (h))) hown hK hP 0 rfl rfl 4 (by decide) (hts (.fieldLink RX0 24 "MossWall$Clauses" "size" "I") (List.mem_cons_of_mem _ (List.mem_append_left _ (List.mem_of_getElem? (i := 0) rfl)))) (fun _ h9 => h9) rfl dX0_winningTurn_38 ?_
              refine lv_icmp_ge (tgt := 103) hx hb dX0_winningTurn_41 (by decide) (fun q4 => ?_) (fun q4 => ?_)
              · replace hM := mw_t hM q4
                exact Ek2_103 x2_2 _ (lv_sub hl [0, 1, 2] rfl) hM
              · replace hM := mw_f hM q4
                refine lv_aload_n hx hb dX0_winningTurn_44 rfl (lv_at hl 2 rfl) ?_
                refine lv_iload_n hx hb dX0_winningTurn_45 rfl (lv_at hl 0 rfl) ?_
                obtain ⟨r5, h5, hM⟩ := mw_d1 hM
                have hPc := hP.sub (ws' := [(t, .inr (0, [.ref t_kinds, .ref t_deeps, .ref t_leans, .ref t_moss, .int t_size])), (t_deeps, .inl (cA, 6, .inl c_t_deeps)), (t_moss, .inl (cA, 6, .inl c_t_moss))]) [0, 1, 2] rfl
                refine vp_callSi (va_Run.run (va_runV (As := [.int x2_2]) (rest := []) ⟨hx, hb, hml, hown, hts⟩ (kX0_lacking l D cA t t_kinds t_deeps t_leans t_moss t_size c_t_deeps c_t_moss x2_2 r5 h5) (cwV 1 hts gX0_winningTurn_X0_lacking rfl rfl rfl (by decide +kernel) ⟨Nat.le_of_ble_eq_true rfl, Nat.le_of_ble_eq_true rfl⟩) ⟨mw_fbR, va_recv hK hP (ci := 0) (q0 := 0) rfl rfl, mw_puR hPc hE⟩ rfl rfl hl.1 rfl (lv_room (Nat.le_of_ble_eq_true rfl)) dX0_winningTurn_46 ⟨Nat.zero_le _, Nat.zero_le _⟩)) (fun v_ e_ => ?_)
                subst v_
                refine lv_istore_n (lv' := [(3, .int r5), (2, .int x2_2), (1, .int x1_1), (0, .ref t)]) hx hb dX0_winningTurn_49 rfl hl (by decide) rfl (fun ls hl => ?_)
                refine lv_iload_n hx hb dX0_winningTurn_50 rfl (lv_at hl 2 rfl) ?_
                refine lv_iload_n hx hb dX0_winningTurn_51 rfl (lv_at hl 0 rfl) ?_
                refine lv_iconst (v := 3) hx hb dX0_winningTurn_52 (by decide) ?_
                refine lv_irem hx hb dX0_winningTurn_53 (by decide) ?_
                refine lv_ixor hx hb dX0_winningTurn_54 ?_
                refine lv_istore (lv' := [(4, .int (x1_1 ^^^ (mw_re r5 3))), (3, .int r5), (2, .int x2_2), (1, .int x1_1), (0, .ref t)]) hx hb dX0_winningTurn_55 hl (by decide) rfl (fun ls hl => ?_)
                refine lv_iconst (v := 1) hx hb dX0_winningTurn_57 (by decide) ?_
                refine lv_istore (lv' := [(5, .int 1), (4, .int (x1_1 ^^^ (mw_re r5 3))), (3, .int r5), (2, .int x2_2), (1, .int x1_1), (0, .ref t)]) hx hb dX0_winningTurn_58 hl (by decide) rfl (fun ls hl => ?_)
                obtain ⟨k3_97, jk3_97⟩ : ∃ k : Int32 → Option Int32, k = fun (x5_3 : Int32) => mX0_winningTurn_L2 t_size c_t_deeps c_t_moss x1_1 k2_103 n2 (x2_2 + 1) := ⟨_, rfl⟩
                have Ek3_97 : ∀ (x5_3 : Int32) (ls : Array Slot), lv_has ls 6 [(5, .int x5_3), (4, .int (x1_1 ^^^ (mw_re r5 3))), (3, .int r5), (2, .int x2_2), (1, .int x1_1), (0, .ref t)] → k3_97 x5_3 = some r → W p l e (headSpec wsX0_winningTurn rmX0_winningTurn).room s m (([.ref t] : List Value).toArray) below meth c s.heap [] 0 0 Q (F0 m 97 ls []) := by
                    intro x5_3 ls hl hM
                    rw [jk3_97] at hM
                    refine lv_iinc (v := x2_2 + 1) (lv' := [(2, .int (x2_2 + 1)), (5, .int x5_3), (4, .int (x1_1 ^^^ (mw_re r5 3))), (3, .int r5), (1, .int x1_1), (0, .ref t)]) hx hb dX0_winningTurn_97 hl (k := 3) rfl (by first | rfl | decide) (by decide) rfl (fun ls hl => ?_)
                    refine lv_goto (tgt := 36) hx hb dX0_winningTurn_100 (by decide) ?_
                    exact ih2 (x2_2 + 1) _ (lv_sub hl [0, 4, 5] rfl) hM
                have L3 : ∀ (n3 : Nat) (x5_3 : Int32) (ls : Array Slot), lv_has ls 6 [(5, .int x5_3), (4, .int (x1_1 ^^^ (mw_re r5 3))), (3, .int r5), (2, .int x2_2), (1, .int x1_1), (0, .ref t)] → mX0_winningTurn_L3 x1_1 x2_2 r5 k3_97 n3 x5_3 = some r → W p l e (headSpec wsX0_winningTurn rmX0_winningTurn).room s m (([.ref t] : List Value).toArray) below meth c s.heap [] 0 0 Q (F0 m 60 ls []) := by
                    intro n3
                    induction n3 with
                    | zero =>
                      intro x5_3 ls hl hM
                      rw [mX0_winningTurn_L3] at hM
                      exact mw_none hM
                    | succ n3 ih3 =>
                      intro x5_3 ls hl hM
                      rw [mX0_winningTurn_L3] at hM
                      refine lv_iload hx hb dX0_winningTurn_60 (lv_at hl 0 rfl) ?_
                      refine lv_iconst (v := 2) hx hb dX0_winningTurn_62 (by decide) ?_
                      refine lv_icmp_gt (tgt := 97) hx hb dX0_winningTurn_63 (by decide) (fun q6 => ?_) (fun q6 => ?_)
                      · replace hM := mw_t hM q6
                        exact Ek3_97 x5_3 _ (lv_sub hl [0, 1, 2, 3, 4, 5] rfl) hM
                      · replace hM := mw_f hM q6
                        refine lv_iload hx hb dX0_winningTurn_66 (lv_at hl 0 rfl) ?_
                        refine lv_iload_n hx hb dX0_winningTurn_68 rfl (lv_at hl 2 rfl) ?_
                        refine lv_icmp_gt (tgt := 97) hx hb dX0_winningTurn_69 (by decide) (fun q7 => ?_) (fun q7 => ?_)
                        · replace hM := mw_t hM q7
                          exact Ek3_97 x5_3 _ (lv_sub hl [0, 1, 2, 3, 4, 5] rfl) hM
                        · replace hM := mw_f hM q7
                          refine lv_iload_n hx hb dX0_winningTurn_72 rfl (lv_at hl 2 rfl) ?_
                          refine lv_iload hx hb dX0_winningTurn_73 (lv_at hl 0 rfl) ?_
                          refine lv_isub hx hb dX0_winningTurn_75 ?_
                          refine lv_iconst (v := 3) hx hb dX0_winningTurn_76 (by decide) ?_
                          refine lv_irem hx hb dX0_winningTurn_77 (by decide) ?_
                          refine lv_iload hx hb dX0_winningTurn_78 (lv_at hl 1 rfl) ?_
                          refine lv_icmp_ne (tgt := 91) hx hb dX0_winningTurn_80 (by decide) (fun q8 => ?_) (fun q8 => ?_)
                          · replace hM := mw_f hM q8
                            refine lv_iinc (v := x5_3 + 1) (lv' := [(5, .int (x5_3 + 1)), (4, .int (x1_1 ^^^ (mw_re r5 3))), (3, .int r5), (2, .int x2_2), (1, .int x1_1), (0, .ref t)]) hx hb dX0_winningTurn_91 hl (k := 0) rfl (by first | rfl | decide) (by decide) rfl (fun ls hl => ?_)
                            refine lv_goto (tgt := 60) hx hb dX0_winningTurn_94 (by decide) ?_
                            exact ih3 (x5_3 + 1) _ (lv_sub hl [0, 1, 2, 3, 4, 5] rfl) hM
                          · replace hM := mw_t hM q8
                            refine lv_bipush (v := 10) hx hb dX0_winningTurn_83 (by decide) ?_
                            refine lv_iload_n hx hb dX0_winningTurn_85 rfl (lv_at hl 3 rfl) ?_
                            refine lv_imul hx hb dX0_winningTurn_86 ?_
                            refine lv_iload hx hb dX0_winningTurn_87 (lv_at hl 0 rfl) ?_
                            refine lv_iadd hx hb dX0_winningTurn_89 ?_
                            obtain rfl := mw_o1 hM
                            subst hQ
                            exact W.iret hx hb hr (fun t ht hW => ⟨_, rfl, rfl, ht⟩) (fun q h => absurd h List.not_mem_nil) dX0_winningTurn_90
                exact L3 300 1 _ hl (by rw [jk3_97]; exact hM)
        exact L2 300 0 _ hl (by rw [jk2_103]; exact hM)
      · replace hM := mw_t hM q3
        refine lv_iconst (v := (-1)) hx hb dX0_winningTurn_32 (by decide) ?_
        obtain rfl := mw_o1 hM
        subst hQ
        exact W.iret hx hb hr (fun t ht hW => ⟨_, rfl, rfl, ht⟩) (fun q h => absurd h List.not_mem_nil) dX0_winningTurn_33
  have L1 : ∀ (n1 : Nat) (x2_1 : Int32) (x1_1 : Int32) (ls : Array Slot), lv_has ls 6 [(2, .int x2_1), (1, .int x1_1), (0, .ref t)] → mX0_winningTurn_L1 t_size c_t_deeps c_t_moss k1_28 n1 x2_1 x1_1 = some r → W p l e (headSpec wsX0_winningTurn rmX0_winningTurn).room s m (([.ref t] : List Value).toArray) below meth c s.heap [] 0 0 Q (F0 m 4 ls []) := by
      intro n1
      induction n1 with
      | zero =>
        intro x2_1 x1_1 ls hl hM
        rw [mX0_winningTurn_L1] at hM
        exact mw_none hM
      | succ n1 ih1 =>
        intro x2_1 x1_1 ls hl hM
        rw [mX0_winningTurn_L1] at hM
        refine lv_iload_n hx hb dX0_winningTurn_4 rfl (lv_at hl 0 rfl) ?_
        refine lv_aload_n hx hb dX0_winningTurn_5 rfl (lv_at hl 2 rfl) ?_
        refine va_get (D := D) (ci := 0) (v := .int t_size) (C := RX0) (T := TX0) (N := 5) hx hb hts (fun _ h => List.mem_cons_of_mem _ (List.mem_append_right _ (h))) hown hK hP 0 rfl rfl 4 (by decide) (hts (.fieldLink RX0 24 "MossWall$Clauses" "size" "I") (List.mem_cons_of_mem _ (List.mem_append_left _ (List.mem_of_getElem? (i := 0) rfl)))) (fun _ h9 => h9) rfl dX0_winningTurn_6 ?_
        refine lv_icmp_ge (tgt := 28) hx hb dX0_winningTurn_9 (by decide) (fun q1 => ?_) (fun q1 => ?_)
        · replace hM := mw_t hM q1
          exact Ek1_28 x2_1 x1_1 _ (lv_sub hl [0, 1, 2] rfl) hM
        · replace hM := mw_f hM q1
          refine lv_iload_n hx hb dX0_winningTurn_12 rfl (lv_at hl 1 rfl) ?_
          refine lv_aload_n hx hb dX0_winningTurn_13 rfl (lv_at hl 2 rfl) ?_
          refine lv_iload_n hx hb dX0_winningTurn_14 rfl (lv_at hl 0 rfl) ?_
          obtain ⟨r2, h2, hM⟩ := mw_d1 hM
          have hPc := hP.sub (ws' := [(t, .inr (0, [.ref t_kinds, .ref t_deeps, .ref t_leans, .ref t_moss, .int t_size])), (t_deeps, .inl (cA, 6, .inl c_t_deeps)), (t_moss, .inl (cA, 6, .inl c_t_moss))]) [0, 1, 2] rfl
          refine vp_callSi (va_Run.run (va_runV (As := [.int x2_1]) (rest := [.int x1_1]) ⟨hx, hb, hml, hown, hts⟩ (kX0_lacking l D cA t t_kinds t_deeps t_leans t_moss t_size c_t_deeps c_t_moss x2_1 r2 h2) (cwV 1 hts gX0_winningTurn_X0_lacking rfl rfl rfl (by decide +kernel) ⟨Nat.le_of_ble_eq_true rfl, Nat.le_of_ble_eq_true rfl⟩) ⟨mw_fbR, va_recv hK hP (ci := 0) (q0 := 0) rfl rfl, mw_puR hPc hE⟩ rfl rfl hl.1 rfl (lv_room (Nat.le_of_ble_eq_true rfl)) dX0_winningTurn_15 ⟨Nat.zero_le _, Nat.zero_le _⟩)) (fun v_ e_ => ?_)
          subst v_
          refine lv_iconst (v := 3) hx hb dX0_winningTurn_18 (by decide) ?_
          refine lv_irem hx hb dX0_winningTurn_19 (by decide) ?_
          refine lv_ixor hx hb dX0_winningTurn_20 ?_
          refine lv_istore_n (lv' := [(1, .int (x1_1 ^^^ (mw_re r2 3))), (2, .int x2_1), (0, .ref t)]) hx hb dX0_winningTurn_21 rfl hl (by decide) rfl (fun ls hl => ?_)
          refine lv_iinc (v := x2_1 + 1) (lv' := [(2, .int (x2_1 + 1)), (1, .int (x1_1 ^^^ (mw_re r2 3))), (0, .ref t)]) hx hb dX0_winningTurn_22 hl (k := 1) rfl (by first | rfl | decide) (by decide) rfl (fun ls hl => ?_)
          refine lv_goto (tgt := 4) hx hb dX0_winningTurn_25 (by decide) ?_
          exact ih1 (x2_1 + 1) (x1_1 ^^^ (mw_re r2 3)) _ (lv_sub hl [0, 1, 2] rfl) hM
  exact L1 300 0 0 _ hl (by rw [jk1_28]; exact hM)
