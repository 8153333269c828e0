def mJ0_isLatin1_aae02  : Option Int32 :=
  some 1
abbrev rmJ0_isLatin1_aae02 : Room := ({ frames := 0, cells := 0, slots := 0, locals := 0 } : Room)
set_option maxHeartbeats 4000000 in
set_option maxRecDepth 100000 in
theorem kJ0_isLatin1_aae02 (l : Launch) (D : va_G) (cA : ClassId) (qk qv : Nat) (r : Int32) (hM : mJ0_isLatin1_aae02  = some r) : Met l yJ0_isLatin1_aae02 wsJ0_isLatin1_aae02 rmJ0_isLatin1_aae02 (va_Pc [.ref qk] (fun U => va_P D vwCl [] U.heap ∧ mw_ev D cA U ∧ mw_sv (fun _ => False) qk qv U)) (vp_Si (fun v => v = r ∧ narrow .boolean (.int v) = .int v)) 0 0 (fun _ => False) := by
  unfold mJ0_isLatin1_aae02 at hM
  refine Met.ofW (cc := cJ0_isLatin1_aae02) (maxL := 1) (ret := (some .boolean)) (by decide) rfl ?_
  intro p e s m args below meth c s₁ B hml hv
  obtain ⟨rfl, hP, hE, hV⟩ := hv
  have hx := B.exec
  have hb := B.bytes
  have hr := B.returns
  have hts := atoms_spec (ws := wsJ0_isLatin1_aae02) B.pre
  have hown : s.vm.findClass RJ0 = some m.cls := findClass_of_methodNamed B.named
  have hlocks := B.notSynchronized
  have hK := hE.1
  have hS : va_S (fun _ => False) s.heap s.heap [] := va_S.rf
  have hl := lv_entry ([.ref qk]) (n := 1) (Nat.le_of_ble_eq_true rfl)
  rw [lg_entry_eq]
  generalize (lg_sl ([.ref qk]) ++ List.replicate (1 - (lg_sl ([.ref qk])).length) Slot.unset).toArray = ls at hl ⊢
  have hl : lv_has ls 1 [(0, .ref qk)] := hl
  refine mw_q (P := fun Q => W p l e (headSpec wsJ0_isLatin1_aae02 rmJ0_isLatin1_aae02).room s m (([.ref qk] : List Value).toArray) below meth c s.heap [] 0 0 Q (F0 m 0 ls [])) (fun Q hQ => ?_)
  refine va_gets hx hb hV.cs hS hown (hts (.fieldLink RJ0 38 "java/lang/String" "COMPACT_STRINGS" "Z") (List.mem_cons_of_mem _ (List.mem_of_getElem? (i := 0) rfl))) (fun _ h9 => h9) dJ0_isLatin1_aae02_0 ?_
  refine lv_if_eq (tgt := 17) hx hb dJ0_isLatin1_aae02_3 (by decide) (fun h => absurd h (by decide)) (fun _ => ?_)
  refine lv_aload_n hx hb dJ0_isLatin1_aae02_6 rfl (lv_at hl 0 rfl) ?_
  refine vk_getf hx hb hV.cd hS hown (hts (.fieldLink RJ0 15 "java/lang/String" "coder" "B") (List.mem_cons_of_mem _ (List.mem_of_getElem? (i := 1) rfl))) (fun _ h9 => h9) dJ0_isLatin1_aae02_7 ?_
  refine lv_if_ne (tgt := 17) hx hb dJ0_isLatin1_aae02_10 (by decide) (fun h => absurd h (by decide)) (fun _ => ?_)
  refine lv_iconst (v := 1) hx hb dJ0_isLatin1_aae02_13 (by decide) ?_
  refine lv_goto (tgt := 18) hx hb dJ0_isLatin1_aae02_14 (by decide) ?_
  obtain rfl := mw_o1 hM
  subst hQ
  exact W.zret hx hb hr rfl (fun t ht hW => ⟨_, rfl, ⟨rfl, rfl⟩, ht⟩) (fun q h => absurd h List.not_mem_nil) dJ0_isLatin1_aae02_18
def mJ0_coder_7d493  : Option Int32 :=
  some 0
abbrev rmJ0_coder_7d493 : Room := ({ frames := 0, cells := 0, slots := 0, locals := 0 } : Room)
set_option maxHeartbeats 4000000 in
set_option maxRecDepth 100000 in
theorem kJ0_coder_7d493 (l : Launch) (D : va_G) (cA : ClassId) (qk qv : Nat) (r : Int32) (hM : mJ0_coder_7d493  = some r) : Met l yJ0_coder_7d493 wsJ0_coder_7d493 rmJ0_coder_7d493 (va_Pc [.ref qk] (fun U => va_P D vwCl [] U.heap ∧ mw_ev D cA U ∧ mw_sv (fun _ => False) qk qv U)) (vp_Si (fun v => v = r)) 0 0 (fun _ => False) := by
  unfold mJ0_coder_7d493 at hM
  refine Met.ofW (cc := cJ0_coder_7d493) (maxL := 1) (ret := (some .byte)) (by decide) rfl ?_
  intro p e s m args below meth c s₁ B hml hv
  obtain ⟨rfl, hP, hE, hV⟩ := hv
  have hx := B.exec
  have hb := B.bytes
  have hr := B.returns
  have hts := atoms_spec (ws := wsJ0_coder_7d493) B.pre
  have hown : s.vm.findClass RJ0 = some m.cls := findClass_of_methodNamed B.named
  have hlocks := B.notSynchronized
  have hK := hE.1
  have hS : va_S (fun _ => False) s.heap s.heap [] := va_S.rf
  have hl := lv_entry ([.ref qk]) (n := 1) (Nat.le_of_ble_eq_true rfl)
  rw [lg_entry_eq]
  generalize (lg_sl ([.ref qk]) ++ List.replicate (1 - (lg_sl ([.ref qk])).length) Slot.unset).toArray = ls at hl ⊢
  have hl : lv_has ls 1 [(0, .ref qk)] := hl
  refine mw_q (P := fun Q => W p l e (headSpec wsJ0_coder_7d493 rmJ0_coder_7d493).room s m (([.ref qk] : List Value).toArray) below meth c s.heap [] 0 0 Q (F0 m 0 ls [])) (fun Q hQ => ?_)
  refine va_gets hx hb hV.cs hS hown (hts (.fieldLink RJ0 38 "java/lang/String" "COMPACT_STRINGS" "Z") (List.mem_cons_of_mem _ (List.mem_of_getElem? (i := 0) rfl))) (fun _ h9 => h9) dJ0_coder_7d493_0 ?_
  refine lv_if_eq (tgt := 13) hx hb dJ0_coder_7d493_3 (by decide) (fun h => absurd h (by decide)) (fun _ => ?_)
  refine lv_aload_n hx hb dJ0_coder_7d493_6 rfl (lv_at hl 0 rfl) ?_
  refine vk_getf hx hb hV.cd hS hown (hts (.fieldLink RJ0 15 "java/lang/String" "coder" "B") (List.mem_cons_of_mem _ (List.mem_of_getElem? (i := 1) rfl))) (fun _ h9 => h9) dJ0_coder_7d493_7 ?_
  refine lv_goto (tgt := 14) hx hb dJ0_coder_7d493_10 (by decide) ?_
  obtain rfl := mw_o1 hM
  subst hQ
  exact W.zret hx hb hr rfl (fun t ht hW => ⟨_, rfl, rfl, ht⟩) (fun q h => absurd h List.not_mem_nil) dJ0_coder_7d493_14
def mJ0_length_8abf5  : Option Int32 :=
  some ((5 : Int32) >>> (0 &&& 31))
abbrev rmJ0_length_8abf5 : Room := ({ frames := 1, cells := 0, slots := 0, locals := 20 } : Room)
set_option maxHeartbeats 4000000 in
set_option maxRecDepth 100000 in
theorem kJ0_length_8abf5 (l : Launch) (D : va_G) (cA : ClassId) (qk qv : Nat) (r : Int32) (hM : mJ0_length_8abf5  = some r) : Met l yJ0_length_8abf5 wsJ0_length_8abf5 rmJ0_length_8abf5 (va_Pc [.ref qk] (fun U => va_P D vwCl [] U.heap ∧ mw_ev D cA U ∧ mw_sv (fun _ => False) qk qv U)) (vp_Si (fun v => v = r)) 0 0 (fun _ => False) := by
  unfold mJ0_length_8abf5 at hM
  refine Met.ofW (cc := cJ0_length_8abf5) (maxL := 1) (ret := (some .int)) (by decide) rfl ?_
  intro p e s m args below meth c s₁ B hml hv
  obtain ⟨rfl, hP, hE, hV⟩ := hv
  have hx := B.exec
  have hb := B.bytes
  have hr := B.returns
  have hts := atoms_spec (ws := wsJ0_length_8abf5) B.pre
  have hown : s.vm.findClass RJ0 = some m.cls := findClass_of_methodNamed B.named
  have hlocks := B.notSynchronized
  have hK := hE.1
  have hS : va_S (fun _ => False) s.heap s.heap [] := va_S.rf
  have hl := lv_entry ([.ref qk]) (n := 1) (Nat.le_of_ble_eq_true rfl)
  rw [lg_entry_eq]
  generalize (lg_sl ([.ref qk]) ++ List.replicate (1 - (lg_sl ([.ref qk])).length) Slot.unset).toArray = ls at hl ⊢
  have hl : lv_has ls 1 [(0, .ref qk)] := hl
  refine mw_q (P := fun Q => W p l e (headSpec wsJ0_length_8abf5 rmJ0_length_8abf5).room s m (([.ref qk] : List Value).toArray) below meth c s.heap [] 0 0 Q (F0 m 0 ls [])) (fun Q hQ => ?_)
  refine lv_aload_n hx hb dJ0_length_8abf5_0 rfl (lv_at hl 0 rfl) ?_
  refine vk_getf hx hb hV.va hS hown (hts (.fieldLink RJ0 9 "java/lang/String" "value" "[B") (List.mem_cons_of_mem _ (List.mem_of_getElem? (i := 0) rfl))) (fun _ h9 => h9) dJ0_length_8abf5_1 ?_
  refine va_tlen (v := 5) hx hb hV.by hS (by decide) dJ0_length_8abf5_4 ?_
  refine lv_aload_n hx hb dJ0_length_8abf5_5 rfl (lv_at hl 0 rfl) ?_
  have h1 : mJ0_coder_7d493 = some 0 := by decide
  have hPc := hP.sub (ws' := []) [] rfl
  refine vp_callSi (va_Run.run (va_runV (As := []) (rest := [.int 5]) ⟨hx, hb, hml, hown, hts⟩ (kJ0_coder_7d493 l D cA qk qv 0 h1) (cwV 0 hts gJ0_length_8abf5_J0_coder_7d493 rfl rfl rfl (by decide +kernel) ⟨Nat.le_of_ble_eq_true rfl, Nat.le_of_ble_eq_true rfl⟩) ⟨mw_fbRS, hV.recv hS, mw_puRS hPc hE (hV.to hS (fun _ h => h.elim))⟩ rfl rfl hl.1 rfl (lv_room (Nat.le_of_ble_eq_true rfl)) dJ0_length_8abf5_6 ⟨Nat.zero_le _, Nat.zero_le _⟩)) (fun v_ e_ => ?_)
  subst v_
  refine lv_ishr hx hb dJ0_length_8abf5_9 ?_
  obtain rfl := mw_o1 hM
  subst hQ
  exact W.iret hx hb hr (fun t ht hW => ⟨_, rfl, rfl, ht⟩) (fun q h => absurd h List.not_mem_nil) dJ0_length_8abf5_10
def mJ1_canEncode_9a6ad (p1 : Int32) : Option Int32 :=
  (if p1 < 0 then some 0 else (if 255 < p1 then some 0 else some 1))
abbrev rmJ1_canEncode_9a6ad : Room := ({ frames := 0, cells := 0, slots := 0, locals := 0 } : Room)
set_option maxHeartbeats 4000000 in
set_option maxRecDepth 100000 in
theorem kJ1_canEncode_9a6ad (l : Launch) (D : va_G) (cA : ClassId) (p1 : Int32) (r : Int32) (hM : mJ1_canEncode_9a6ad p1 = some r) : Met l yJ1_canEncode_9a6ad wsJ1_canEncode_9a6ad rmJ1_canEncode_9a6ad (va_Pc [.int p1] (fun U => va_P D vwCl [] U.heap ∧ mw_ev D cA U)) (vp_Si (fun v => v = r ∧ narrow .boolean (.int v) = .int v)) 0 0 (fun _ => False) := by
  unfold mJ1_canEncode_9a6ad at hM
  refine Met.ofW (cc := cJ1_canEncode_9a6ad) (maxL := 1) (ret := (some .boolean)) (by decide) rfl ?_
  intro p e s m args below meth c s₁ B hml hv
  obtain ⟨rfl, hP, hE⟩ := hv
  have hx := B.exec
  have hb := B.bytes
  have hr := B.returns
  have hts := atoms_spec (ws := wsJ1_canEncode_9a6ad) B.pre
  have hown : s.vm.findClass RJ1 = some m.cls := findClass_of_methodNamed B.named
  have hlocks := B.notSynchronized
  have hK := hE.1
  have hl := lv_entry ([.int p1]) (n := 1) (Nat.le_of_ble_eq_true rfl)
  rw [lg_entry_eq]
  generalize (lg_sl ([.int p1]) ++ List.replicate (1 - (lg_sl ([.int p1])).length) Slot.unset).toArray = ls at hl ⊢
  have hl : lv_has ls 1 [(0, .int p1)] := hl
  refine mw_q (P := fun Q => W p l e (headSpec wsJ1_canEncode_9a6ad rmJ1_canEncode_9a6ad).room s m (([.int p1] : List Value).toArray) below meth c s.heap [] 0 0 Q (F0 m 0 ls [])) (fun Q hQ => ?_)
  refine lv_iload_n hx hb dJ1_canEncode_9a6ad_0 rfl (lv_at hl 0 rfl) ?_
  refine lv_if_lt (tgt := 15) hx hb dJ1_canEncode_9a6ad_1 (by decide) (fun q1 => ?_) (fun q1 => ?_)
  · replace hM := mw_t hM q1
    refine lv_iconst (v := 0) hx hb dJ1_canEncode_9a6ad_15 (by decide) ?_
    obtain rfl := mw_o1 hM
    subst hQ
    exact W.zret hx hb hr rfl (fun t ht hW => ⟨_, rfl, ⟨rfl, rfl⟩, ht⟩) (fun q h => absurd h List.not_mem_nil) dJ1_canEncode_9a6ad_16
  · replace hM := mw_f hM q1
    refine lv_iload_n hx hb dJ1_canEncode_9a6ad_4 rfl (lv_at hl 0 rfl) ?_
    refine lv_sipush (v := 255) hx hb dJ1_canEncode_9a6ad_5 (by decide) ?_
    refine lv_icmp_gt (tgt := 15) hx hb dJ1_canEncode_9a6ad_8 (by decide) (fun q2 => ?_) (fun q2 => ?_)
    · replace hM := mw_t hM q2
      refine lv_iconst (v := 0) hx hb dJ1_canEncode_9a6ad_15 (by decide) ?_
      obtain rfl := mw_o1 hM
      subst hQ
      exact W.zret hx hb hr rfl (fun t ht hW => ⟨_, rfl, ⟨rfl, rfl⟩, ht⟩) (fun q h => absurd h List.not_mem_nil) dJ1_canEncode_9a6ad_16
    · replace hM := mw_f hM q2
      refine lv_iconst (v := 1) hx hb dJ1_canEncode_9a6ad_11 (by decide) ?_
      refine lv_goto (tgt := 16) hx hb dJ1_canEncode_9a6ad_12 (by decide) ?_
      obtain rfl := mw_o1 hM
      subst hQ
      exact W.zret hx hb hr rfl (fun t ht hW => ⟨_, rfl, ⟨rfl, rfl⟩, ht⟩) (fun q h => absurd h List.not_mem_nil) dJ1_canEncode_9a6ad_16
def mJ1_indexOfChar_4cfef_L1 (p2 : Int32) (p4 : Int32) (k1_31 : Int32 → Option Int32) : Nat → Int32 → Option Int32
  | 0, _ => none
  | n1 + 1, x5_1 =>
    (if p4 ≤ x5_1 then k1_31 x5_1 else (mw_rd mw_ky 5 x5_1).bind fun e2 => (if e2 = (mw_by p2) then some x5_1 else mJ1_indexOfChar_4cfef_L1 p2 p4 k1_31 n1 (x5_1 + 1)))
def mJ1_indexOfChar_4cfef (p2 : Int32) (p3 : Int32) (p4 : Int32) : Option Int32 :=
  mJ1_indexOfChar_4cfef_L1 p2 p4 (fun (x5_1 : Int32) => some ((-1))) 300 p3
abbrev rmJ1_indexOfChar_4cfef : Room := ({ frames := 0, cells := 0, slots := 0, locals := 0 } : Room)
set_option maxHeartbeats 4000000 in
set_option maxRecDepth 100000 in
theorem kJ1_indexOfChar_4cfef (l : Launch) (D : va_G) (cA : ClassId) (qk qv : Nat) (p2 : Int32) (p3 : Int32) (p4 : Int32) (r : Int32) (hM : mJ1_indexOfChar_4cfef p2 p3 p4 = some r) : Met l yJ1_indexOfChar_4cfef wsJ1_indexOfChar_4cfef rmJ1_indexOfChar_4cfef (va_Pc [.ref qv, .int p2, .int p3, .int p4] (fun U => va_P D vwCl [] U.heap ∧ mw_ev D cA U ∧ mw_sv (fun _ => False) qk qv U)) (vp_Si (fun v => v = r)) 0 0 (fun _ => False) := by
  unfold mJ1_indexOfChar_4cfef at hM
  refine Met.ofW (cc := cJ1_indexOfChar_4cfef) (maxL := 6) (ret := (some .int)) (by decide) rfl ?_
  intro p e s m args below meth c s₁ B hml hv
  obtain ⟨rfl, hP, hE, hV⟩ := hv
  have hx := B.exec
  have hb := B.bytes
  have hr := B.returns
  have hts := atoms_spec (ws := wsJ1_indexOfChar_4cfef) B.pre
  have hown : s.vm.findClass RJ1 = some m.cls := findClass_of_methodNamed B.named
  have hlocks := B.notSynchronized
  have hK := hE.1
  have hS : va_S (fun _ => False) s.heap s.heap [] := va_S.rf
  have hl := lv_entry ([.ref qv, .int p2, .int p3, .int p4]) (n := 6) (Nat.le_of_ble_eq_true rfl)
  rw [lg_entry_eq]
  generalize (lg_sl ([.ref qv, .int p2, .int p3, .int p4]) ++ List.replicate (6 - (lg_sl ([.ref qv, .int p2, .int p3, .int p4])).length) Slot.unset).toArray = ls at hl ⊢
  have hl : lv_has ls 6 [(0, .ref qv), (1, .int p2), (2, .int p3), (3, .int p4)] := hl
  refine mw_q (P := fun Q => W p l e (headSpec wsJ1_indexOfChar_4cfef rmJ1_indexOfChar_4cfef).room s m (([.ref qv, .int p2, .int p3, .int p4] : List Value).toArray) below meth c s.heap [] 0 0 Q (F0 m 0 ls [])) (fun Q hQ => ?_)
  refine lv_iload_n hx hb dJ1_indexOfChar_4cfef_0 rfl (lv_at hl 1 rfl) ?_
  refine lv_i2b (v := mw_by p2) hx hb dJ1_indexOfChar_4cfef_1 rfl ?_
  refine lv_istore (lv' := [(4, .int (mw_by p2)), (0, .ref qv), (1, .int p2), (2, .int p3), (3, .int p4)]) hx hb dJ1_indexOfChar_4cfef_2 hl (by decide) rfl (fun ls hl => ?_)
  refine lv_iload_n hx hb dJ1_indexOfChar_4cfef_4 rfl (lv_at hl 3 rfl) ?_
  refine lv_istore (lv' := [(5, .int p3), (4, .int (mw_by p2)), (0, .ref qv), (1, .int p2), (2, .int p3), (3, .int p4)]) hx hb dJ1_indexOfChar_4cfef_5 hl (by decide) rfl (fun ls hl => ?_)
  obtain ⟨k1_31, jk1_31⟩ : ∃ k : Int32 → Option Int32, k = fun (x5_1 : Int32) => some ((-1)) := ⟨_, rfl⟩
  have Ek1_31 : ∀ (x5_1 : Int32) (ls : Array Slot), lv_has ls 6 [(5, .int x5_1), (4, .int (mw_by p2)), (0, .ref qv), (1, .int p2), (2, .int p3), (3, .int p4)] → k1_31 x5_1 = some r → W p l e (headSpec wsJ1_indexOfChar_4cfef rmJ1_indexOfChar_4cfef).room s m (([.ref qv, .int p2, .int p3, .int p4] : List Value).toArray) below meth c s.heap [] 0 0 Q (F0 m 31 ls []) := by
      intro x5_1 ls hl hM
      rw [jk1_31] at hM
      refine lv_iconst (v := (-1)) hx hb dJ1_indexOfChar_4cfef_31 (by decide) ?_
      obtain rfl := mw_o1 hM
      subst hQ
      exact W.iret hx hb hr (fun t ht hW => ⟨_, rfl, rfl, ht⟩) (fun q h => absurd h List.not_mem_nil) dJ1_indexOfChar_4cfef_32
  have L1 : ∀ (n1 : Nat) (x5_1 : Int32) (ls : Array Slot), lv_has ls 6 [(5, .int x5_1), (4, .int (mw_by p2)), (0, .ref qv), (1, .int p2), (2, .int p3), (3, .int p4)] → mJ1_indexOfChar_4cfef_L1 p2 p4 k1_31 n1 x5_1 = some r → W p l e (headSpec wsJ1_indexOfChar_4cfef rmJ1_indexOfChar_4cfef).room s m (([.ref qv, .int p2, .int p3, .int p4] : List Value).toArray) below meth c s.heap [] 0 0 Q (F0 m 7 ls []) := by
      intro n1
      induction n1 with
      | zero =>
        intro x5_1 ls hl hM
        rw [mJ1_indexOfChar_4cfef_L1] at hM
        exact mw_none hM
      | succ n1 ih1 =>
        intro x5_1 ls hl hM
        rw [mJ1_indexOfChar_4cfef_L1] at hM
        refine lv_iload hx hb dJ1_indexOfChar_4cfef_7 (lv_at hl 0 rfl) ?_
        refine lv_iload_n hx hb dJ1_indexOfChar_4cfef_9 rfl (lv_at hl 5 rfl) ?_
        refine lv_icmp_ge (tgt := 31) hx hb dJ1_indexOfChar_4cfef_10 (by decide) (fun q1 => ?_) (fun q1 => ?_)
        · replace hM := mw_t hM q1
          exact Ek1_31 x5_1 _ (lv_sub hl [0, 1, 2, 3, 4, 5] rfl) hM
        · replace hM := mw_f hM q1
          refine lv_aload_n hx hb dJ1_indexOfChar_4cfef_13 rfl (lv_at hl 2 rfl) ?_
          refine lv_iload hx hb dJ1_indexOfChar_4cfef_14 (lv_at hl 0 rfl) ?_
          obtain ⟨e2, h2, hM⟩ := mw_d1 hM
          refine mw_bald hx hb hV.by hS h2 dJ1_indexOfChar_4cfef_16 ?_
          refine lv_iload hx hb dJ1_indexOfChar_4cfef_17 (lv_at hl 1 rfl) ?_
          refine lv_icmp_ne (tgt := 25) hx hb dJ1_indexOfChar_4cfef_19 (by decide) (fun q3 => ?_) (fun q3 => ?_)
          · replace hM := mw_f hM q3
            refine lv_iinc (v := x5_1 + 1) (lv' := [(5, .int (x5_1 + 1)), (4, .int (mw_by p2)), (0, .ref qv), (1, .int p2), (2, .int p3), (3, .int p4)]) hx hb dJ1_indexOfChar_4cfef_25 hl (k := 0) rfl (by first | rfl | decide) (by decide) rfl (fun ls hl => ?_)
            refine lv_goto (tgt := 7) hx hb dJ1_indexOfChar_4cfef_28 (by decide) ?_
            exact ih1 (x5_1 + 1) _ (lv_sub hl [0, 1, 2, 3, 4, 5] rfl) hM
          · replace hM := mw_t hM q3
            refine lv_iload hx hb dJ1_indexOfChar_4cfef_22 (lv_at hl 0 rfl) ?_
            obtain rfl := mw_o1 hM
            subst hQ
            exact W.iret hx hb hr (fun t ht hW => ⟨_, rfl, rfl, ht⟩) (fun q h => absurd h List.not_mem_nil) dJ1_indexOfChar_4cfef_24
  exact L1 300 p3 _ hl (by rw [jk1_31]; exact hM)
def mJ1_indexOf_4cfef (p2 : Int32) (p3 : Int32) (p4 : Int32) : Option Int32 :=
  (mJ1_canEncode_9a6ad p2).bind fun r1 => (if r1 = 0 then some ((-1)) else (if (mw_mx p3 0) < (mw_mn p4 5) then (mJ1_indexOfChar_4cfef p2 (mw_mx p3 0) (mw_mn p4 5)).bind fun r4 => some r4 else some ((-1))))
abbrev rmJ1_indexOf_4cfef : Room := ({ frames := 1, cells := 0, slots := 0, locals := 25 } : Room)
set_option maxHeartbeats 4000000 in
set_option maxRecDepth 100000 in
theorem kJ1_indexOf_4cfef (l : Launch) (D : va_G) (cA : ClassId) (qk qv : Nat) (p2 : Int32) (p3 : Int32) (p4 : Int32) (r : Int32) (hM : mJ1_indexOf_4cfef p2 p3 p4 = some r) : Met l yJ1_indexOf_4cfef wsJ1_indexOf_4cfef rmJ1_indexOf_4cfef (va_Pc [.ref qv, .int p2, .int p3, .int p4] (fun U => va_P D vwCl [] U.heap ∧ mw_ev D cA U ∧ mw_sv (fun _ => False) qk qv U)) (vp_Si (fun v => v = r)) 0 0 (fun _ => False) := by
  unfold mJ1_indexOf_4cfef at hM
  refine Met.ofW (cc := cJ1_indexOf_4cfef) (maxL := 4) (ret := (some .int)) (by decide) rfl ?_
  intro p e s m args below meth c s₁ B hml hv
  obtain ⟨rfl, hP, hE, hV⟩ := hv
  have hx := B.exec
  have hb := B.bytes
  have hr := B.returns
  have hts := atoms_spec (ws := wsJ1_indexOf_4cfef) B.pre
  have hown : s.vm.findClass RJ1 = some m.cls := findClass_of_methodNamed B.named
  have hlocks := B.notSynchronized
  have hK := hE.1
  have hS : va_S (fun _ => False) s.heap s.heap [] := va_S.rf
  have hl := lv_entry ([.ref qv, .int p2, .int p3, .int p4]) (n := 4) (Nat.le_of_ble_eq_true rfl)
  rw [lg_entry_eq]
  generalize (lg_sl ([.ref qv, .int p2, .int p3, .int p4]) ++ List.replicate (4 - (lg_sl ([.ref qv, .int p2, .int p3, .int p4])).length) Slot.unset).toArray = ls at hl ⊢
  have hl : lv_has ls 4 [(0, .ref qv), (1, .int p2), (2, .int p3), (3, .int p4)] := hl
  refine mw_q (P := fun Q => W p l e (headSpec wsJ1_indexOf_4cfef rmJ1_indexOf_4cfef).room s m (([.ref qv, .int p2, .int p3, .int p4] : List Value).toArray) below meth c s.heap [] 0 0 Q (F0 m 0 ls [])) (fun Q hQ => ?_)
  refine lv_iload_n hx hb dJ1_indexOf_4cfef_0 rfl (lv_at hl 1 rfl) ?_
  obtain ⟨r1, h1, hM⟩ := mw_d1 hM
  have hPc := hP.sub (ws' := []) [] rfl
  refine vp_callSi (va_Run.run (va_runS (As := [.int p2]) (rest := []) ⟨hx, hb, hml, hown, hts⟩ (kJ1_canEncode_9a6ad l D cA p2 r1 h1) (va_cwS 1 hts gJ1_indexOf_4cfef_J1_canEncode_9a6ad rfl rfl rfl (by decide +kernel) ⟨Nat.le_of_ble_eq_true rfl, Nat.le_of_ble_eq_true rfl⟩) ⟨mw_fbR, mw_puR hPc hE⟩ rfl rfl hl.1 rfl (lv_room (Nat.le_of_ble_eq_true rfl)) dJ1_indexOf_4cfef_1 ⟨Nat.zero_le _, Nat.zero_le _⟩)) (fun v_ e_ => ?_)
  obtain ⟨e_, b1⟩ := e_
  subst v_
  refine lv_if_ne (tgt := 9) hx hb dJ1_indexOf_4cfef_4 (by decide) (fun q2 => ?_) (fun q2 => ?_)
  · replace hM := mw_f hM q2
    refine lv_iload_n hx hb dJ1_indexOf_4cfef_9 rfl (lv_at hl 2 rfl) ?_
    refine lv_iconst (v := 0) hx hb dJ1_indexOf_4cfef_10 (by decide) ?_
    refine va_mmax hx hb (hml.trans hl.1.symm) hown (hts (.methodLink RJ1 92 Lib.Math.max.name) (List.mem_cons_of_mem _ (List.mem_of_getElem? (i := 0) rfl))) (hts (.static Lib.Math.max.name) (List.mem_cons_of_mem _ (List.mem_of_getElem? (i := 1) rfl))) (hts (.initialized "java/lang/Math") (List.mem_cons_of_mem _ (List.mem_of_getElem? (i := 2) rfl))) (hts (.code Lib.Math.max.name Lib.Math.max.code 2 (some .int)) (List.mem_cons_of_mem _ (List.mem_of_getElem? (i := 3) rfl))) (Nat.le_of_ble_eq_true rfl) (Nat.le_of_ble_eq_true rfl) (Nat.zero_le _) (Nat.zero_le _) dJ1_indexOf_4cfef_11 ?_
    refine lv_istore_n (lv' := [(2, .int (mw_mx p3 0)), (0, .ref qv), (1, .int p2), (3, .int p4)]) hx hb dJ1_indexOf_4cfef_14 rfl hl (by decide) rfl (fun ls hl => ?_)
    refine lv_iload_n hx hb dJ1_indexOf_4cfef_15 rfl (lv_at hl 3 rfl) ?_
    refine lv_aload_n hx hb dJ1_indexOf_4cfef_16 rfl (lv_at hl 1 rfl) ?_
    refine va_tlen (v := 5) hx hb hV.by hS (by decide) dJ1_indexOf_4cfef_17 ?_
    refine va_mmin hx hb (hml.trans hl.1.symm) hown (hts (.methodLink RJ1 38 Lib.Math.min.name) (List.mem_cons_of_mem _ (List.mem_of_getElem? (i := 4) rfl))) (hts (.static Lib.Math.min.name) (List.mem_cons_of_mem _ (List.mem_of_getElem? (i := 5) rfl))) (hts (.initialized "java/lang/Math") (List.mem_cons_of_mem _ (List.mem_of_getElem? (i := 2) rfl))) (hts (.code Lib.Math.min.name Lib.Math.min.code 2 (some .int)) (List.mem_cons_of_mem _ (List.mem_of_getElem? (i := 6) rfl))) (Nat.le_of_ble_eq_true rfl) (Nat.le_of_ble_eq_true rfl) (Nat.zero_le _) (Nat.zero_le _) dJ1_indexOf_4cfef_18 ?_
    refine lv_istore_n (lv' := [(3, .int (mw_mn p4 5)), (2, .int (mw_mx p3 0)), (0, .ref qv), (1, .int p2)]) hx hb dJ1_indexOf_4cfef_21 rfl hl (by decide) rfl (fun ls hl => ?_)
    refine lv_iload_n hx hb dJ1_indexOf_4cfef_22 rfl (lv_at hl 1 rfl) ?_
    refine lv_iload_n hx hb dJ1_indexOf_4cfef_23 rfl (lv_at hl 0 rfl) ?_
    refine lv_icmp_lt (tgt := 29) hx hb dJ1_indexOf_4cfef_24 (by decide) (fun q3 => ?_) (fun q3 => ?_)
    · replace hM := mw_t hM q3
      refine lv_aload_n hx hb dJ1_indexOf_4cfef_29 rfl (lv_at hl 2 rfl) ?_
      refine lv_iload_n hx hb dJ1_indexOf_4cfef_30 rfl (lv_at hl 3 rfl) ?_
      refine lv_iload_n hx hb dJ1_indexOf_4cfef_31 rfl (lv_at hl 1 rfl) ?_
      refine lv_iload_n hx hb dJ1_indexOf_4cfef_32 rfl (lv_at hl 0 rfl) ?_
      obtain ⟨r4, h4, hM⟩ := mw_d1 hM
      have hPc := hP.sub (ws' := []) [] rfl
      refine vp_callSi (va_Run.run (va_runS (As := [.ref qv, .int p2, .int (mw_mx p3 0), .int (mw_mn p4 5)]) (rest := []) ⟨hx, hb, hml, hown, hts⟩ (kJ1_indexOfChar_4cfef l D cA qk qv p2 (mw_mx p3 0) (mw_mn p4 5) r4 h4) (va_cwS 4 hts gJ1_indexOf_4cfef_J1_indexOfChar_4cfef rfl rfl rfl (by decide +kernel) ⟨Nat.le_of_ble_eq_true rfl, Nat.le_of_ble_eq_true rfl⟩) ⟨mw_fbRS, mw_puRS hPc hE (hV.to hS (fun _ h => h.elim))⟩ rfl rfl hl.1 rfl (lv_room (Nat.le_of_ble_eq_true rfl)) dJ1_indexOf_4cfef_33 ⟨Nat.zero_le _, Nat.zero_le _⟩)) (fun v_ e_ => ?_)
      subst v_
      obtain rfl := mw_o1 hM
      subst hQ
      exact W.iret hx hb hr (fun t ht hW => ⟨_, rfl, rfl, ht⟩) (fun q h => absurd h List.not_mem_nil) dJ1_indexOf_4cfef_36
    · replace hM := mw_f hM q3
      refine lv_iconst (v := (-1)) hx hb dJ1_indexOf_4cfef_27 (by decide) ?_
      obtain rfl := mw_o1 hM
      subst hQ
      exact W.iret hx hb hr (fun t ht hW => ⟨_, rfl, rfl, ht⟩) (fun q h => absurd h List.not_mem_nil) dJ1_indexOf_4cfef_28
  · replace hM := mw_t hM q2
    refine lv_iconst (v := (-1)) hx hb dJ1_indexOf_4cfef_7 (by decide) ?_
    obtain rfl := mw_o1 hM
    subst hQ
    exact W.iret hx hb hr (fun t ht hW => ⟨_, rfl, rfl, ht⟩) (fun q h => absurd h List.not_mem_nil) dJ1_indexOf_4cfef_8
def mJ0_indexOf_7cf53 (p1 : Int32) (p2 : Int32) : Option Int32 :=
  (mJ1_indexOf_4cfef p1 p2 5).bind fun r3 => some r3
abbrev rmJ0_indexOf_7cf53 : Room := ({ frames := 2, cells := 0, slots := 0, locals := 48 } : Room)
set_option maxHeartbeats 4000000 in
set_option maxRecDepth 100000 in
theorem kJ0_indexOf_7cf53 (l : Launch) (D : va_G) (cA : ClassId) (qk qv : Nat) (p1 : Int32) (p2 : Int32) (r : Int32) (hM : mJ0_indexOf_7cf53 p1 p2 = some r) : Met l yJ0_indexOf_7cf53 wsJ0_indexOf_7cf53 rmJ0_indexOf_7cf53 (va_Pc [.ref qk, .int p1, .int p2] (fun U => va_P D vwCl [] U.heap ∧ mw_ev D cA U ∧ mw_sv (fun _ => False) qk qv U)) (vp_Si (fun v => v = r)) 0 0 (fun _ => False) := by
  unfold mJ0_indexOf_7cf53 at hM
  refine Met.ofW (cc := cJ0_indexOf_7cf53) (maxL := 3) (ret := (some .int)) (by decide) rfl ?_
  intro p e s m args below meth c s₁ B hml hv
  obtain ⟨rfl, hP, hE, hV⟩ := hv
  have hx := B.exec
  have hb := B.bytes
  have hr := B.returns
  have hts := atoms_spec (ws := wsJ0_indexOf_7cf53) B.pre
  have hown : s.vm.findClass RJ0 = some m.cls := findClass_of_methodNamed B.named
  have hlocks := B.notSynchronized
  have hK := hE.1
  have hS : va_S (fun _ => False) s.heap s.heap [] := va_S.rf
  have hl := lv_entry ([.ref qk, .int p1, .int p2]) (n := 3) (Nat.le_of_ble_eq_true rfl)
  rw [lg_entry_eq]
  generalize (lg_sl ([.ref qk, .int p1, .int p2]) ++ List.replicate (3 - (lg_sl ([.ref qk, .int p1, .int p2])).length) Slot.unset).toArray = ls at hl ⊢
  have hl : lv_has ls 3 [(0, .ref qk), (1, .int p1), (2, .int p2)] := hl
  refine mw_q (P := fun Q => W p l e (headSpec wsJ0_indexOf_7cf53 rmJ0_indexOf_7cf53).room s m (([.ref qk, .int p1, .int p2] : List Value).toArray) below meth c s.heap [] 0 0 Q (F0 m 0 ls [])) (fun Q hQ => ?_)
  refine lv_aload_n hx hb dJ0_indexOf_7cf53_0 rfl (lv_at hl 0 rfl) ?_
  have h1 : mJ0_isLatin1_aae02 = some 1 := by decide
  have hPc := hP.sub (ws' := []) [] rfl
  refine vp_callSi (va_Run.run (va_runV (As := []) (rest := []) ⟨hx, hb, hml, hown, hts⟩ (kJ0_isLatin1_aae02 l D cA qk qv 1 h1) (cwV 0 hts gJ0_indexOf_7cf53_J0_isLatin1_aae02 rfl rfl rfl (by decide +kernel) ⟨Nat.le_of_ble_eq_true rfl, Nat.le_of_ble_eq_true rfl⟩) ⟨mw_fbRS, hV.recv hS, mw_puRS hPc hE (hV.to hS (fun _ h => h.elim))⟩ rfl rfl hl.1 rfl (lv_room (Nat.le_of_ble_eq_true rfl)) dJ0_indexOf_7cf53_1 ⟨Nat.zero_le _, Nat.zero_le _⟩)) (fun v_ e_ => ?_)
  obtain ⟨e_, b1⟩ := e_
  subst v_
  refine lv_if_eq (tgt := 23) hx hb dJ0_indexOf_7cf53_4 (by decide) (fun h => absurd h (by decide)) (fun _ => ?_)
  refine lv_aload_n hx hb dJ0_indexOf_7cf53_7 rfl (lv_at hl 0 rfl) ?_
  refine vk_getf hx hb hV.va hS hown (hts (.fieldLink RJ0 9 "java/lang/String" "value" "[B") (List.mem_cons_of_mem _ (List.mem_append_left _ (List.mem_of_getElem? (i := 0) rfl)))) (fun _ h9 => h9) dJ0_indexOf_7cf53_8 ?_
  refine lv_iload_n hx hb dJ0_indexOf_7cf53_11 rfl (lv_at hl 1 rfl) ?_
  refine lv_iload_n hx hb dJ0_indexOf_7cf53_12 rfl (lv_at hl 2 rfl) ?_
  refine lv_aload_n hx hb dJ0_indexOf_7cf53_13 rfl (lv_at hl 0 rfl) ?_
  have h2 : mJ0_length_8abf5 = some 5 := by decide
  have hPc := hP.sub (ws' := []) [] rfl
  refine vp_callSi (va_Run.run (va_runV (As := []) (rest := [.int p2, .int p1, .ref qv]) ⟨hx, hb, hml, hown, hts⟩ (kJ0_length_8abf5 l D cA qk qv 5 h2) (cwV 0 hts gJ0_indexOf_7cf53_J0_length_8abf5 rfl rfl rfl (by decide +kernel) ⟨Nat.le_of_ble_eq_true rfl, Nat.le_of_ble_eq_true rfl⟩) ⟨mw_fbRS, hV.recv hS, mw_puRS hPc hE (hV.to hS (fun _ h => h.elim))⟩ rfl rfl hl.1 rfl (lv_room (Nat.le_of_ble_eq_true rfl)) dJ0_indexOf_7cf53_14 ⟨Nat.zero_le _, Nat.zero_le _⟩)) (fun v_ e_ => ?_)
  subst v_
  obtain ⟨r3, h3, hM⟩ := mw_d1 hM
  have hPc := hP.sub (ws' := []) [] rfl
  refine vp_callSi (va_Run.run (va_runS (As := [.ref qv, .int p1, .int p2, .int 5]) (rest := []) ⟨hx, hb, hml, hown, hts⟩ (kJ1_indexOf_4cfef l D cA qk qv p1 p2 5 r3 h3) (va_cwS 4 hts gJ0_indexOf_7cf53_J1_indexOf_4cfef rfl rfl rfl (by decide +kernel) ⟨Nat.le_of_ble_eq_true rfl, Nat.le_of_ble_eq_true rfl⟩) ⟨mw_fbRS, mw_puRS hPc hE (hV.to hS (fun _ h => h.elim))⟩ rfl rfl hl.1 rfl (lv_room (Nat.le_of_ble_eq_true rfl)) dJ0_indexOf_7cf53_17 ⟨Nat.zero_le _, Nat.zero_le _⟩)) (fun v_ e_ => ?_)
  subst v_
  refine lv_goto (tgt := 36) hx hb dJ0_indexOf_7cf53_20 (by decide) ?_
  obtain rfl := mw_o1 hM
  subst hQ
  exact W.iret hx hb hr (fun t ht hW => ⟨_, rfl, rfl, ht⟩) (fun q h => absurd h List.not_mem_nil) dJ0_indexOf_7cf53_36
def mJ0_indexOf_0f7a4 (p1 : Int32) : Option Int32 :=
  (mJ0_indexOf_7cf53 p1 0).bind fun r1 => some r1
abbrev rmJ0_indexOf_0f7a4 : Room := ({ frames := 3, cells := 0, slots := 0, locals := 70 } : Room)
set_option maxHeartbeats 4000000 in
set_option maxRecDepth 100000 in
theorem kJ0_indexOf_0f7a4 (l : Launch) (D : va_G) (cA : ClassId) (qk qv : Nat) (p1 : Int32) (r : Int32) (hM : mJ0_indexOf_0f7a4 p1 = some r) : Met l yJ0_indexOf_0f7a4 wsJ0_indexOf_0f7a4 rmJ0_indexOf_0f7a4 (va_Pc [.ref qk, .int p1] (fun U => va_P D vwCl [] U.heap ∧ mw_ev D cA U ∧ mw_sv (fun _ => False) qk qv U)) (vp_Si (fun v => v = r)) 0 0 (fun _ => False) := by
  unfold mJ0_indexOf_0f7a4 at hM
  refine Met.ofW (cc := cJ0_indexOf_0f7a4) (maxL := 2) (ret := (some .int)) (by decide) rfl ?_
  intro p e s m args below meth c s₁ B hml hv
  obtain ⟨rfl, hP, hE, hV⟩ := hv
  have hx := B.exec
  have hb := B.bytes
  have hr := B.returns
  have hts := atoms_spec (ws := wsJ0_indexOf_0f7a4) B.pre
  have hown : s.vm.findClass RJ0 = some m.cls := findClass_of_methodNamed B.named
  have hlocks := B.notSynchronized
  have hK := hE.1
  have hS : va_S (fun _ => False) s.heap s.heap [] := va_S.rf
  have hl := lv_entry ([.ref qk, .int p1]) (n := 2) (Nat.le_of_ble_eq_true rfl)
  rw [lg_entry_eq]
  generalize (lg_sl ([.ref qk, .int p1]) ++ List.replicate (2 - (lg_sl ([.ref qk, .int p1])).length) Slot.unset).toArray = ls at hl ⊢
  have hl : lv_has ls 2 [(0, .ref qk), (1, .int p1)] := hl
  refine mw_q (P := fun Q => W p l e (headSpec wsJ0_indexOf_0f7a4 rmJ0_indexOf_0f7a4).room s m (([.ref qk, .int p1] : List Value).toArray) below meth c s.heap [] 0 0 Q (F0 m 0 ls [])) (fun Q hQ => ?_)
  refine lv_aload_n hx hb dJ0_indexOf_0f7a4_0 rfl (lv_at hl 0 rfl) ?_
  refine lv_iload_n hx hb dJ0_indexOf_0f7a4_1 rfl (lv_at hl 1 rfl) ?_
  refine lv_iconst (v := 0) hx hb dJ0_indexOf_0f7a4_2 (by decide) ?_
  obtain ⟨r1, h1, hM⟩ := mw_d1 hM
  have hPc := hP.sub (ws' := []) [] rfl
  refine vp_callSi (va_Run.run (va_runV (As := [.int p1, .int 0]) (rest := []) ⟨hx, hb, hml, hown, hts⟩ (kJ0_indexOf_7cf53 l D cA qk qv p1 0 r1 h1) (cwV 2 hts gJ0_indexOf_0f7a4_J0_indexOf_7cf53 rfl rfl rfl (by decide +kernel) ⟨Nat.le_of_ble_eq_true rfl, Nat.le_of_ble_eq_true rfl⟩) ⟨mw_fbRS, hV.recv hS, mw_puRS hPc hE (hV.to hS (fun _ h => h.elim))⟩ rfl rfl hl.1 rfl (lv_room (Nat.le_of_ble_eq_true rfl)) dJ0_indexOf_0f7a4_3 ⟨Nat.zero_le _, Nat.zero_le _⟩)) (fun v_ e_ => ?_)
  subst v_
  obtain rfl := mw_o1 hM
  subst hQ
  exact W.iret hx hb hr (fun t ht hW => ⟨_, rfl, rfl, ht⟩) (fun q h => absurd h List.not_mem_nil) dJ0_indexOf_0f7a4_6
def mX2_fitsClause (p1 : Int32) (p2 : Int32) (p3 : Int32) : Option Int32 :=
  (if p1 < 6 then (if p2 = 0 then (mJ0_indexOf_0f7a4 (mw_ch p3)).bind fun r3 => (if r3 < 0 then some 0 else some 1) else (if p2 = 1 then (if p3 < 49 then some 0 else (if 57 < p3 then some 0 else some 1)) else (if p2 = 2 then (if p3 = 45 then some 1 else (if p3 < 48 then some 0 else (if (48 + p1) ≤ p3 then some 0 else some 1))) else (if p3 = 59 then some 1 else (if p3 = 44 then (if 5 ≤ p1 then some 0 else some 1) else some 0))))) else some 0)
abbrev rmX2_fitsClause : Room := ({ frames := 4, cells := 0, slots := 0, locals := 91 } : Room)
set_option maxHeartbeats 4000000 in
set_option maxRecDepth 100000 in
theorem kX2_fitsClause (l : Launch) (D : va_G) (cA : ClassId) (qk qv : Nat) (p1 : Int32) (p2 : Int32) (p3 : Int32) (r : Int32) (hM : mX2_fitsClause p1 p2 p3 = some r) : Met l yX2_fitsClause wsX2_fitsClause rmX2_fitsClause (va_Pc [.int p1, .int p2, .int p3] (fun U => va_P D vwCl [] U.heap ∧ mw_ev D cA U ∧ mw_sv (fun _ => False) qk qv U)) (vp_Si (fun v => v = r ∧ narrow .boolean (.int v) = .int v)) 0 0 (fun _ => False) := by
  unfold mX2_fitsClause at hM
  refine Met.ofW (cc := cX2_fitsClause) (maxL := 3) (ret := (some .boolean)) (by decide) rfl ?_
  intro p e s m args below meth c s₁ B hml hv
  obtain ⟨rfl, hP, hE, hV⟩ := hv
  have hx := B.exec
  have hb := B.bytes
  have hr := B.returns
  have hts := atoms_spec (ws := wsX2_fitsClause) B.pre
  have hown : s.vm.findClass RX2 = some m.cls := findClass_of_methodNamed B.named
  have hlocks := B.notSynchronized
  have hK := hE.1
  have hS : va_S (fun _ => False) s.heap s.heap [] := va_S.rf
  have hl := lv_entry ([.int p1, .int p2, .int p3]) (n := 3) (Nat.le_of_ble_eq_true rfl)
  rw [lg_entry_eq]
  generalize (lg_sl ([.int p1, .int p2, .int p3]) ++ List.replicate (3 - (lg_sl ([.int p1, .int p2, .int p3])).length) Slot.unset).toArray = ls at hl ⊢
  have hl : lv_has ls 3 [(0, .int p1), (1, .int p2), (2, .int p3)] := hl
  refine mw_q (P := fun Q => W p l e (headSpec wsX2_fitsClause rmX2_fitsClause).room s m (([.int p1, .int p2, .int p3] : List Value).toArray) below meth c s.heap [] 0 0 Q (F0 m 0 ls [])) (fun Q hQ => ?_)
  refine lv_iload_n hx hb dX2_fitsClause_0 rfl (lv_at hl 0 rfl) ?_
  refine lv_bipush (v := 6) hx hb dX2_fitsClause_1 (by decide) ?_
  refine lv_icmp_lt (tgt := 8) hx hb dX2_fitsClause_3 (by decide) (fun q1 => ?_) (fun q1 => ?_)
  · replace hM := mw_t hM q1
    refine lv_iload_n hx hb dX2_fitsClause_8 rfl (lv_at hl 1 rfl) ?_
    by_cases q2 : p2 = 0
    · replace hM := mw_t hM q2
      refine mw_tab (off := 27) (tgt := 36) hx hb q2 dX2_fitsClause_9 (by decide) (by decide) (by decide) (by decide) ?_
      refine va_ldcS hx hb hown hV.tx dX2_fitsClause_36 ?_
      refine lv_iload_n hx hb dX2_fitsClause_38 rfl (lv_at hl 2 rfl) ?_
      refine lv_i2c (v := mw_ch p3) hx hb dX2_fitsClause_39 rfl ?_
      obtain ⟨r3, h3, hM⟩ := mw_d1 hM
      have hPc := hP.sub (ws' := []) [] rfl
      refine vp_callSi (va_Run.run (va_runV (As := [.int (mw_ch p3)]) (rest := []) ⟨hx, hb, hml, hown, hts⟩ (kJ0_indexOf_0f7a4 l D cA qk qv (mw_ch p3) r3 h3) (cwV 1 hts gX2_fitsClause_J0_indexOf_0f7a4 rfl rfl rfl (by decide +kernel) ⟨Nat.le_of_ble_eq_true rfl, Nat.le_of_ble_eq_true rfl⟩) ⟨mw_fbRS, hV.recv hS, mw_puRS hPc hE (hV.to hS (fun _ h => h.elim))⟩ rfl rfl hl.1 rfl (lv_room (Nat.le_of_ble_eq_true rfl)) dX2_fitsClause_40 ⟨Nat.zero_le _, Nat.zero_le _⟩)) (fun v_ e_ => ?_)
      subst v_
      refine lv_if_lt (tgt := 50) hx hb dX2_fitsClause_43 (by decide) (fun q4 => ?_) (fun q4 => ?_)
      · replace hM := mw_t hM q4
        refine lv_iconst (v := 0) hx hb dX2_fitsClause_50 (by decide) ?_
        obtain rfl := mw_o1 hM
        subst hQ
        exact W.zret hx hb hr rfl (fun t ht hW => ⟨_, rfl, ⟨rfl, rfl⟩, ht⟩) (fun q h => absurd h List.not_mem_nil) dX2_fitsClause_51
      · replace hM := mw_f hM q4
        refine lv_iconst (v := 1) hx hb dX2_fitsClause_46 (by decide) ?_
        refine lv_goto (tgt := 51) hx hb dX2_fitsClause_47 (by decide) ?_
        obtain rfl := mw_o1 hM
        subst hQ
        exact W.zret hx hb hr rfl (fun t ht hW => ⟨_, rfl, ⟨rfl, rfl⟩, ht⟩) (fun q h => absurd h List.not_mem_nil) dX2_fitsClause_51
    replace hM := mw_f hM q2
    by_cases q5 : p2 = 1
    · replace hM := mw_t hM q5
      refine mw_tab (off := 43) (tgt := 52) hx hb q5 dX2_fitsClause_9 (by decide) (by decide) (by decide) (by decide) ?_
      refine lv_iload_n hx hb dX2_fitsClause_52 rfl (lv_at hl 2 rfl) ?_
      refine lv_bipush (v := 49) hx hb dX2_fitsClause_53 (by decide) ?_
      refine lv_icmp_lt (tgt := 68) hx hb dX2_fitsClause_55 (by decide) (fun q6 => ?_) (fun q6 => ?_)
      · replace hM := mw_t hM q6
        refine lv_iconst (v := 0) hx hb dX2_fitsClause_68 (by decide) ?_
        obtain rfl := mw_o1 hM
        subst hQ
        exact W.zret hx hb hr rfl (fun t ht hW => ⟨_, rfl, ⟨rfl, rfl⟩, ht⟩) (fun q h => absurd h List.not_mem_nil) dX2_fitsClause_69
      · replace hM := mw_f hM q6
        refine lv_iload_n hx hb dX2_fitsClause_58 rfl (lv_at hl 2 rfl) ?_
        refine lv_bipush (v := 57) hx hb dX2_fitsClause_59 (by decide) ?_
        refine lv_icmp_gt (tgt := 68) hx hb dX2_fitsClause_61 (by decide) (fun q7 => ?_) (fun q7 => ?_)
        · replace hM := mw_t hM q7
          refine lv_iconst (v := 0) hx hb dX2_fitsClause_68 (by decide) ?_
          obtain rfl := mw_o1 hM
          subst hQ
          exact W.zret hx hb hr rfl (fun t ht hW => ⟨_, rfl, ⟨rfl, rfl⟩, ht⟩) (fun q h => absurd h List.not_mem_nil) dX2_fitsClause_69
        · replace hM := mw_f hM q7
          refine lv_iconst (v := 1) hx hb dX2_fitsClause_64 (by decide) ?_
          refine lv_goto (tgt := 69) hx hb dX2_fitsClause_65 (by decide) ?_
          obtain rfl := mw_o1 hM
          subst hQ
          exact W.zret hx hb hr rfl (fun t ht hW => ⟨_, rfl, ⟨rfl, rfl⟩, ht⟩) (fun q h => absurd h List.not_mem_nil) dX2_fitsClause_69
    replace hM := mw_f hM q5
    by_cases q8 : p2 = 2
    · replace hM := mw_t hM q8
      refine mw_tab (off := 61) (tgt := 70) hx hb q8 dX2_fitsClause_9 (by decide) (by decide) (by decide) (by decide) ?_
      refine lv_iload_n hx hb dX2_fitsClause_70 rfl (lv_at hl 2 rfl) ?_
      refine lv_bipush (v := 45) hx hb dX2_fitsClause_71 (by decide) ?_
      refine lv_icmp_eq (tgt := 90) hx hb dX2_fitsClause_73 (by decide) (fun q9 => ?_) (fun q9 => ?_)
      · replace hM := mw_t hM q9
        refine lv_iconst (v := 1) hx hb dX2_fitsClause_90 (by decide) ?_
        refine lv_goto (tgt := 95) hx hb dX2_fitsClause_91 (by decide) ?_
        obtain rfl := mw_o1 hM
        subst hQ
        exact W.zret hx hb hr rfl (fun t ht hW => ⟨_, rfl, ⟨rfl, rfl⟩, ht⟩) (fun q h => absurd h List.not_mem_nil) dX2_fitsClause_95
      · replace hM := mw_f hM q9
        refine lv_iload_n hx hb dX2_fitsClause_76 rfl (lv_at hl 2 rfl) ?_
        refine lv_bipush (v := 48) hx hb dX2_fitsClause_77 (by decide) ?_
        refine lv_icmp_lt (tgt := 94) hx hb dX2_fitsClause_79 (by decide) (fun q10 => ?_) (fun q10 => ?_)
        · replace hM := mw_t hM q10
          refine lv_iconst (v := 0) hx hb dX2_fitsClause_94 (by decide) ?_
          obtain rfl := mw_o1 hM
          subst hQ
          exact W.zret hx hb hr rfl (fun t ht hW => ⟨_, rfl, ⟨rfl, rfl⟩, ht⟩) (fun q h => absurd h List.not_mem_nil) dX2_fitsClause_95
        · replace hM := mw_f hM q10
          refine lv_iload_n hx hb dX2_fitsClause_82 rfl (lv_at hl 2 rfl) ?_
          refine lv_bipush (v := 48) hx hb dX2_fitsClause_83 (by decide) ?_
          refine lv_iload_n hx hb dX2_fitsClause_85 rfl (lv_at hl 0 rfl) ?_
          refine lv_iadd hx hb dX2_fitsClause_86 ?_
          refine lv_icmp_ge (tgt := 94) hx hb dX2_fitsClause_87 (by decide) (fun q11 => ?_) (fun q11 => ?_)
          · replace hM := mw_t hM q11
            refine lv_iconst (v := 0) hx hb dX2_fitsClause_94 (by decide) ?_
            obtain rfl := mw_o1 hM
            subst hQ
            exact W.zret hx hb hr rfl (fun t ht hW => ⟨_, rfl, ⟨rfl, rfl⟩, ht⟩) (fun q h => absurd h List.not_mem_nil) dX2_fitsClause_95
          · replace hM := mw_f hM q11
            refine lv_iconst (v := 1) hx hb dX2_fitsClause_90 (by decide) ?_
            refine lv_goto (tgt := 95) hx hb dX2_fitsClause_91 (by decide) ?_
            obtain rfl := mw_o1 hM
            subst hQ
            exact W.zret hx hb hr rfl (fun t ht hW => ⟨_, rfl, ⟨rfl, rfl⟩, ht⟩) (fun q h => absurd h List.not_mem_nil) dX2_fitsClause_95
    replace hM := mw_f hM q8
    have u2 : ¬ (p2 : Int32).toInt = 0 := lv_neT q2 (by decide)
    have u5 : ¬ (p2 : Int32).toInt = 1 := lv_neT q5 (by decide)
    have u8 : ¬ (p2 : Int32).toInt = 2 := lv_neT q8 (by decide)
    refine lv_tableOut (x := p2) (tgt := 96) hx hb dX2_fitsClause_9 (by omega) (by decide) ?_
    refine lv_iload_n hx hb dX2_fitsClause_96 rfl (lv_at hl 2 rfl) ?_
    refine lv_bipush (v := 59) hx hb dX2_fitsClause_97 (by decide) ?_
    refine lv_icmp_eq (tgt := 113) hx hb dX2_fitsClause_99 (by decide) (fun q12 => ?_) (fun q12 => ?_)
    · replace hM := mw_t hM q12
      refine lv_iconst (v := 1) hx hb dX2_fitsClause_113 (by decide) ?_
      refine lv_goto (tgt := 118) hx hb dX2_fitsClause_114 (by decide) ?_
      obtain rfl := mw_o1 hM
      subst hQ
      exact W.zret hx hb hr rfl (fun t ht hW => ⟨_, rfl, ⟨rfl, rfl⟩, ht⟩) (fun q h => absurd h List.not_mem_nil) dX2_fitsClause_118
    · replace hM := mw_f hM q12
      refine lv_iload_n hx hb dX2_fitsClause_102 rfl (lv_at hl 2 rfl) ?_
      refine lv_bipush (v := 44) hx hb dX2_fitsClause_103 (by decide) ?_
      refine lv_icmp_ne (tgt := 117) hx hb dX2_fitsClause_105 (by decide) (fun q13 => ?_) (fun q13 => ?_)
      · replace hM := mw_f hM q13
        refine lv_iconst (v := 0) hx hb dX2_fitsClause_117 (by decide) ?_
        obtain rfl := mw_o1 hM
        subst hQ
        exact W.zret hx hb hr rfl (fun t ht hW => ⟨_, rfl, ⟨rfl, rfl⟩, ht⟩) (fun q h => absurd h List.not_mem_nil) dX2_fitsClause_118
      · replace hM := mw_t hM q13
        refine lv_iload_n hx hb dX2_fitsClause_108 rfl (lv_at hl 0 rfl) ?_
        refine lv_iconst (v := 5) hx hb dX2_fitsClause_109 (by decide) ?_
        refine lv_icmp_ge (tgt := 117) hx hb dX2_fitsClause_110 (by decide) (fun q14 => ?_) (fun q14 => ?_)
        · replace hM := mw_t hM q14
          refine lv_iconst (v := 0) hx hb dX2_fitsClause_117 (by decide) ?_
          obtain rfl := mw_o1 hM
          subst hQ
          exact W.zret hx hb hr rfl (fun t ht hW => ⟨_, rfl, ⟨rfl, rfl⟩, ht⟩) (fun q h => absurd h List.not_mem_nil) dX2_fitsClause_118
        · replace hM := mw_f hM q14
          refine lv_iconst (v := 1) hx hb dX2_fitsClause_113 (by decide) ?_
          refine lv_goto (tgt := 118) hx hb dX2_fitsClause_114 (by decide) ?_
          obtain rfl := mw_o1 hM
          subst hQ
          exact W.zret hx hb hr rfl (fun t ht hW => ⟨_, rfl, ⟨rfl, rfl⟩, ht⟩) (fun q h => absurd h List.not_mem_nil) dX2_fitsClause_118
  · replace hM := mw_f hM q1
    refine lv_iconst (v := 0) hx hb dX2_fitsClause_6 (by decide) ?_
    obtain rfl := mw_o1 hM
    subst hQ
    exact W.zret hx hb hr rfl (fun t ht hW => ⟨_, rfl, ⟨rfl, rfl⟩, ht⟩) (fun q h => absurd h List.not_mem_nil) dX2_fitsClause_7
def mX2_faultPlace_L1 (t_size : Int32) (c_t_codes : Nat → Int32) (r1 : Int32) (k1_63 : Int32 → Option Int32) : Nat → Int32 → Option Int32
  | 0, _ => none
  | n1 + 1, x2_1 =>
    (if t_size ≤ x2_1 then k1_63 x2_1 else (if r1 ≤ x2_1 then (mw_rd c_t_codes 36 x2_1).bind fun e4 => (mX2_fitsRain (x2_1 - r1) e4).bind fun r5 => (if r5 = 0 then some x2_1 else mX2_faultPlace_L1 t_size c_t_codes r1 k1_63 n1 (x2_1 + 1)) else (mw_rd c_t_codes 36 x2_1).bind fun e7 => (mX2_fitsClause (x2_1 / 4) (mw_re x2_1 4) e7).bind fun r8 => (if r8 = 0 then some x2_1 else mX2_faultPlace_L1 t_size c_t_codes r1 k1_63 n1 (x2_1 + 1))))
def mX2_faultPlace (t_size : Int32) (c_t_codes : Nat → Int32) : Option Int32 :=
  (mX2_rainPlace t_size c_t_codes).bind fun r1 => mX2_faultPlace_L1 t_size c_t_codes r1 (fun (x2_1 : Int32) => some t_size) 300 0
abbrev rmX2_faultPlace : Room := ({ frames := 5, cells := 0, slots := 0, locals := 113 } : Room)
set_option maxHeartbeats 4000000 in
set_option maxRecDepth 100000 in
theorem kX2_faultPlace (l : Launch) (D : va_G) (cA : ClassId) (qk qv t t_codes : Nat) (t_size : Int32) (c_t_codes : Nat → Int32) (r : Int32) (hM : mX2_faultPlace t_size c_t_codes = some r) : Met l yX2_faultPlace wsX2_faultPlace rmX2_faultPlace (va_Pc [.ref t] (fun U => va_P D vwCl [(t, .inr (2, [.ref t_codes, .int t_size])), (t_codes, .inl (cA, 36, .inl c_t_codes))] U.heap ∧ mw_ev D cA U ∧ mw_sv (fun _ => False) qk qv U)) (vp_Si (fun v => v = r)) 0 0 (fun _ => False) := by
  unfold mX2_faultPlace at hM
  refine Met.ofW (cc := cX2_faultPlace) (maxL := 4) (ret := (some .int)) (by decide) rfl ?_
  intro p e s m args below meth c s₁ B hml hv
  obtain ⟨rfl, hP, hE, hV⟩ := hv
  have hx := B.exec
  have hb := B.bytes
  have hr := B.returns
  have hts := atoms_spec (ws := wsX2_faultPlace) B.pre
  have hown : s.vm.findClass RX2 = some m.cls := findClass_of_methodNamed B.named
  have hlocks := B.notSynchronized
  have hK := hE.1
  have hS : va_S (fun _ => False) s.heap s.heap [] := va_S.rf
  have hl := lv_entry ([.ref t]) (n := 4) (Nat.le_of_ble_eq_true rfl)
  rw [lg_entry_eq]
  generalize (lg_sl ([.ref t]) ++ List.replicate (4 - (lg_sl ([.ref t])).length) Slot.unset).toArray = ls at hl ⊢
  have hl : lv_has ls 4 [(0, .ref t)] := hl
  refine mw_q (P := fun Q => W p l e (headSpec wsX2_faultPlace rmX2_faultPlace).room s m (([.ref t] : List Value).toArray) below meth c s.heap [] 0 0 Q (F0 m 0 ls [])) (fun Q hQ => ?_)
  refine lv_aload_n hx hb dX2_faultPlace_0 rfl (lv_at hl 0 rfl) ?_
  obtain ⟨r1, h1, hM⟩ := mw_d1 hM
  have hPc := hP.sub (ws' := [(t, .inr (2, [.ref t_codes, .int t_size])), (t_codes, .inl (cA, 36, .inl c_t_codes))]) [0, 1] rfl
  refine vp_callSi (va_Run.run (va_runV (As := []) (rest := []) ⟨hx, hb, hml, hown, hts⟩ (kX2_rainPlace l D cA t t_codes t_size c_t_codes r1 h1) (cwV 0 hts gX2_faultPlace_X2_rainPlace rfl rfl rfl (by decide +kernel) ⟨Nat.le_of_ble_eq_true rfl, Nat.le_of_ble_eq_true rfl⟩) ⟨mw_fbR, va_recv hK hP (ci := 2) (q0 := 0) rfl rfl, mw_puR hPc hE⟩ rfl rfl hl.1 rfl (lv_room (Nat.le_of_ble_eq_true rfl)) dX2_faultPlace_1 ⟨Nat.zero_le _, Nat.zero_le _⟩)) (fun v_ e_ => ?_)
  subst v_
  refine lv_istore_n (lv' := [(1, .int r1), (0, .ref t)]) hx hb dX2_faultPlace_4 rfl hl (by decide) rfl (fun ls hl => ?_)
  refine lv_iconst (v := 0) hx hb dX2_faultPlace_5 (by decide) ?_
  refine lv_istore_n (lv' := [(2, .int 0), (1, .int r1), (0, .ref t)]) hx hb dX2_faultPlace_6 rfl hl (by decide) rfl (fun ls hl => ?_)
  obtain ⟨k1_63, jk1_63⟩ : ∃ k : Int32 → Option Int32, k = fun (x2_1 : Int32) => some t_size := ⟨_, rfl⟩
  have Ek1_63 : ∀ (x2_1 : Int32) (ls : Array Slot), lv_has ls 4 [(2, .int x2_1), (1, .int r1), (0, .ref t)] → k1_63 x2_1 = some r → W p l e (headSpec wsX2_faultPlace rmX2_faultPlace).room s m (([.ref t] : List Value).toArray) below meth c s.heap [] 0 0 Q (F0 m 63 ls []) := by
      intro x2_1 ls hl hM
      rw [jk1_63] at hM
      refine lv_aload_n hx hb dX2_faultPlace_63 rfl (lv_at hl 2 rfl) ?_
      refine va_get (D := D) (ci := 2) (v := .int t_size) (C := RX2) (T := TX2) (N := 2) hx hb hts (fun _ h => List.mem_cons_of_mem _ (List.mem_append_right _ (h))) hown hK hP 0 rfl rfl 1 (by decide) (hts (.fieldLink RX2 15 "MossWall$Page" "size" "I") (List.mem_cons_of_mem _ (List.mem_append_left _ (List.mem_append_left _ (List.mem_of_getElem? (i := 0) rfl))))) (fun _ h9 => h9) rfl dX2_faultPlace_64 ?_
      obtain rfl := mw_o1 hM
      subst hQ
      exact W.iret hx hb hr (fun t ht hW => ⟨_, rfl, rfl, ht⟩) (fun q h => absurd h List.not_mem_nil) dX2_faultPlace_67
  have L1 : ∀ (n1 : Nat) (x2_1 : Int32) (ls : Array Slot), lv_has ls 4 [(2, .int x2_1), (1, .int r1), (0, .ref t)] → mX2_faultPlace_L1 t_size c_t_codes r1 k1_63 n1 x2_1 = some r → W p l e (headSpec wsX2_faultPlace rmX2_faultPlace).room s m (([.ref t] : List Value).toArray) below meth c s.heap [] 0 0 Q (F0 m 7 ls []) := by
      intro n1
      induction n1 with
      | zero =>
        intro x2_1 ls hl hM
        rw [mX2_faultPlace_L1] at hM
        exact mw_none hM
      | succ n1 ih1 =>
        intro x2_1 ls hl hM
        rw [mX2_faultPlace_L1] at hM
        refine lv_iload_n hx hb dX2_faultPlace_7 rfl (lv_at hl 0 rfl) ?_
        refine lv_aload_n hx hb dX2_faultPlace_8 rfl (lv_at hl 2 rfl) ?_
        refine va_get (D := D) (ci := 2) (v := .int t_size) (C := RX2) (T := TX2) (N := 2) hx hb hts (fun _ h => List.mem_cons_of_mem _ (List.mem_append_right _ (h))) hown hK hP 0 rfl rfl 1 (by decide) (hts (.fieldLink RX2 15 "MossWall$Page" "size" "I") (List.mem_cons_of_mem _ (List.mem_append_left _ (List.mem_append_left _ (List.mem_of_getElem? (i := 0) rfl))))) (fun _ h9 => h9) rfl dX2_faultPlace_9 ?_
        refine lv_icmp_ge (tgt := 63) hx hb dX2_faultPlace_12 (by decide) (fun q2 => ?_) (fun q2 => ?_)
        · replace hM := mw_t hM q2
          exact Ek1_63 x2_1 _ (lv_sub hl [0, 1, 2] rfl) hM
        · replace hM := mw_f hM q2
          refine lv_iload_n hx hb dX2_faultPlace_15 rfl (lv_at hl 0 rfl) ?_
          refine lv_iload_n hx hb dX2_faultPlace_16 rfl (lv_at hl 1 rfl) ?_
          refine lv_icmp_ge (tgt := 38) hx hb dX2_faultPlace_17 (by decide) (fun q3 => ?_) (fun q3 => ?_)
          · replace hM := mw_t hM q3
            refine lv_iload_n hx hb dX2_faultPlace_38 rfl (lv_at hl 0 rfl) ?_
            refine lv_iload_n hx hb dX2_faultPlace_39 rfl (lv_at hl 1 rfl) ?_
            refine lv_isub hx hb dX2_faultPlace_40 ?_
            refine lv_aload_n hx hb dX2_faultPlace_41 rfl (lv_at hl 2 rfl) ?_
            refine va_get (D := D) (ci := 2) (v := .ref t_codes) (C := RX2) (T := TX2) (N := 2) hx hb hts (fun _ h => List.mem_cons_of_mem _ (List.mem_append_right _ (h))) hown hK hP 0 rfl rfl 0 (by decide) (hts (.fieldLink RX2 9 "MossWall$Page" "codes" "[I") (List.mem_cons_of_mem _ (List.mem_append_left _ (List.mem_append_left _ (List.mem_of_getElem? (i := 1) rfl))))) (fun _ h9 => h9) rfl dX2_faultPlace_42 ?_
            refine lv_iload_n hx hb dX2_faultPlace_45 rfl (lv_at hl 0 rfl) ?_
            obtain ⟨e4, h4, hM⟩ := mw_d1 hM
            refine mw_iald hx hb hK hP 1 0 rfl rfl h4 dX2_faultPlace_46 ?_
            obtain ⟨r5, h5, hM⟩ := mw_d1 hM
            have hPc := hP.sub (ws' := []) [] rfl
            refine vp_callSi (va_Run.run (va_runS (As := [.int (x2_1 - r1), .int e4]) (rest := []) ⟨hx, hb, hml, hown, hts⟩ (kX2_fitsRain l D cA (x2_1 - r1) e4 r5 h5) (va_cwS 2 hts gX2_faultPlace_X2_fitsRain rfl rfl rfl (by decide +kernel) ⟨Nat.le_of_ble_eq_true rfl, Nat.le_of_ble_eq_true rfl⟩) ⟨mw_fbR, mw_puR hPc hE⟩ rfl rfl hl.1 rfl (lv_room (Nat.le_of_ble_eq_true rfl)) dX2_faultPlace_47 ⟨Nat.zero_le _, Nat.zero_le _⟩)) (fun v_ e_ => ?_)
            obtain ⟨e_, b5⟩ := e_
            subst v_
            refine lv_istore_n (lv' := [(3, .int r5), (2, .int x2_1), (1, .int r1), (0, .ref t)]) hx hb dX2_faultPlace_50 rfl hl (by decide) rfl (fun ls hl => ?_)
            refine lv_iload_n hx hb dX2_faultPlace_51 rfl (lv_at hl 0 rfl) ?_
            refine lv_if_ne (tgt := 57) hx hb dX2_faultPlace_52 (by decide) (fun q6 => ?_) (fun q6 => ?_)
            · replace hM := mw_f hM q6
              refine lv_iinc (v := x2_1 + 1) (lv' := [(2, .int (x2_1 + 1)), (3, .int r5), (1, .int r1), (0, .ref t)]) hx hb dX2_faultPlace_57 hl (k := 1) rfl (by first | rfl | decide) (by decide) rfl (fun ls hl => ?_)
              refine lv_goto (tgt := 7) hx hb dX2_faultPlace_60 (by decide) ?_
              exact ih1 (x2_1 + 1) _ (lv_sub hl [0, 2, 3] rfl) hM
            · replace hM := mw_t hM q6
              refine lv_iload_n hx hb dX2_faultPlace_55 rfl (lv_at hl 1 rfl) ?_
              obtain rfl := mw_o1 hM
              subst hQ
              exact W.iret hx hb hr (fun t ht hW => ⟨_, rfl, rfl, ht⟩) (fun q h => absurd h List.not_mem_nil) dX2_faultPlace_56
          · replace hM := mw_f hM q3
            refine lv_iload_n hx hb dX2_faultPlace_20 rfl (lv_at hl 0 rfl) ?_
            refine lv_iconst (v := 4) hx hb dX2_faultPlace_21 (by decide) ?_
            refine lv_idiv hx hb dX2_faultPlace_22 (by decide) ?_
            refine lv_iload_n hx hb dX2_faultPlace_23 rfl (lv_at hl 0 rfl) ?_
            refine lv_iconst (v := 4) hx hb dX2_faultPlace_24 (by decide) ?_
            refine lv_irem hx hb dX2_faultPlace_25 (by decide) ?_
            refine lv_aload_n hx hb dX2_faultPlace_26 rfl (lv_at hl 2 rfl) ?_
            refine va_get (D := D) (ci := 2) (v := .ref t_codes) (C := RX2) (T := TX2) (N := 2) hx hb hts (fun _ h => List.mem_cons_of_mem _ (List.mem_append_right _ (h))) hown hK hP 0 rfl rfl 0 (by decide) (hts (.fieldLink RX2 9 "MossWall$Page" "codes" "[I") (List.mem_cons_of_mem _ (List.mem_append_left _ (List.mem_append_left _ (List.mem_of_getElem? (i := 1) rfl))))) (fun _ h9 => h9) rfl dX2_faultPlace_27 ?_
            refine lv_iload_n hx hb dX2_faultPlace_30 rfl (lv_at hl 0 rfl) ?_
            obtain ⟨e7, h7, hM⟩ := mw_d1 hM
            refine mw_iald hx hb hK hP 1 0 rfl rfl h7 dX2_faultPlace_31 ?_
            obtain ⟨r8, h8, hM⟩ := mw_d1 hM
            have hPc := hP.sub (ws' := []) [] rfl
            refine vp_callSi (va_Run.run (va_runS (As := [.int (x2_1 / 4), .int (mw_re x2_1 4), .int e7]) (rest := []) ⟨hx, hb, hml, hown, hts⟩ (kX2_fitsClause l D cA qk qv (x2_1 / 4) (mw_re x2_1 4) e7 r8 h8) (va_cwS 3 hts gX2_faultPlace_X2_fitsClause rfl rfl rfl (by decide +kernel) ⟨Nat.le_of_ble_eq_true rfl, Nat.le_of_ble_eq_true rfl⟩) ⟨mw_fbRS, mw_puRS hPc hE (hV.to hS (fun _ h => h.elim))⟩ rfl rfl hl.1 rfl (lv_room (Nat.le_of_ble_eq_true rfl)) dX2_faultPlace_32 ⟨Nat.zero_le _, Nat.zero_le _⟩)) (fun v_ e_ => ?_)
            obtain ⟨e_, b8⟩ := e_
            subst v_
            refine lv_goto (tgt := 50) hx hb dX2_faultPlace_35 (by decide) ?_
            refine lv_istore_n (lv' := [(3, .int r8), (2, .int x2_1), (1, .int r1), (0, .ref t)]) hx hb dX2_faultPlace_50 rfl hl (by decide) rfl (fun ls hl => ?_)
            refine lv_iload_n hx hb dX2_faultPlace_51 rfl (lv_at hl 0 rfl) ?_
            refine lv_if_ne (tgt := 57) hx hb dX2_faultPlace_52 (by decide) (fun q9 => ?_) (fun q9 => ?_)
            · replace hM := mw_f hM q9
              refine lv_iinc (v := x2_1 + 1) (lv' := [(2, .int (x2_1 + 1)), (3, .int r8), (1, .int r1), (0, .ref t)]) hx hb dX2_faultPlace_57 hl (k := 1) rfl (by first | rfl | decide) (by decide) rfl (fun ls hl => ?_)
              refine lv_goto (tgt := 7) hx hb dX2_faultPlace_60 (by decide) ?_
              exact ih1 (x2_1 + 1) _ (lv_sub hl [0, 2, 3] rfl) hM
            · replace hM := mw_t hM q9
              refine lv_iload_n hx hb dX2_faultPlace_55 rfl (lv_at hl 1 rfl) ?_
              obtain rfl := mw_o1 hM
              subst hQ
              exact W.iret hx hb hr (fun t ht hW => ⟨_, rfl, rfl, ht⟩) (fun q h => absurd h List.not_mem_nil) dX2_faultPlace_56
  exact L1 300 0 _ hl (by rw [jk1_63]; exact hM)
def mX2_isWall (t_size : Int32) (c_t_codes : Nat → Int32) : Option Int32 :=
  (mX2_rainPlace t_size c_t_codes).bind fun r1 => (if t_size ≤ r1 then some 0 else (mX2_faultPlace t_size c_t_codes).bind fun r3 => (if r3 = t_size then some 1 else some 0))
abbrev rmX2_isWall : Room := ({ frames := 6, cells := 0, slots := 0, locals := 136 } : Room)
set_option maxHeartbeats 4000000 in
set_option maxRecDepth 100000 in
theorem kX2_isWall (l : Launch) (D : va_G) (cA : ClassId) (qk qv t t_codes : Nat) (t_size : Int32) (c_t_codes : Nat → Int32) (r : Int32) (hM : mX2_isWall t_size c_t_codes = some r) : Met l yX2_isWall wsX2_isWall rmX2_isWall (va_Pc [.ref t] (fun U => va_P D vwCl [(t, .inr (2, [.ref t_codes, .int t_size])), (t_codes, .inl (cA, 36, .inl c_t_codes))] U.heap ∧ mw_ev D cA U ∧ mw_sv (fun _ => False) qk qv U)) (vp_Si (fun v => v = r ∧ narrow .boolean (.int v) = .int v)) 0 0 (fun _ => False) := by
  unfold mX2_isWall at hM
  refine Met.ofW (cc := cX2_isWall) (maxL := 1) (ret := (some .boolean)) (by decide) rfl ?_
  intro p e s m args below meth c s₁ B hml hv
  obtain ⟨rfl, hP, hE, hV⟩ := hv
  have hx := B.exec
  have hb := B.bytes
  have hr := B.returns
  have hts := atoms_spec (ws := wsX2_isWall) B.pre
  have hown : s.vm.findClass RX2 = some m.cls := findClass_of_methodNamed B.named
  have hlocks := B.notSynchronized
  have hK := hE.1
  have hS : va_S (fun _ => False) s.heap s.heap [] := va_S.rf
  have hl := lv_entry ([.ref t]) (n := 1) (Nat.le_of_ble_eq_true rfl)
  rw [lg_entry_eq]
  generalize (lg_sl ([.ref t]) ++ List.replicate (1 - (lg_sl ([.ref t])).length) Slot.unset).toArray = ls at hl ⊢
  have hl : lv_has ls 1 [(0, .ref t)] := hl
  refine mw_q (P := fun Q => W p l e (headSpec wsX2_isWall rmX2_isWall).room s m (([.ref t] : List Value).toArray) below meth c s.heap [] 0 0 Q (F0 m 0 ls [])) (fun Q hQ => ?_)
  refine lv_aload_n hx hb dX2_isWall_0 rfl (lv_at hl 0 rfl) ?_
  obtain ⟨r1, h1, hM⟩ := mw_d1 hM
  have hPc := hP.sub (ws' := [(t, .inr (2, [.ref t_codes, .int t_size])), (t_codes, .inl (cA, 36, .inl c_t_codes))]) [0, 1] rfl
  refine vp_callSi (va_Run.run (va_runV (As := []) (rest := []) ⟨hx, hb, hml, hown, hts⟩ (kX2_rainPlace l D cA t t_codes t_size c_t_codes r1 h1) (cwV 0 hts gX2_isWall_X2_rainPlace rfl rfl rfl (by decide +kernel) ⟨Nat.le_of_ble_eq_true rfl, Nat.le_of_ble_eq_true rfl⟩) ⟨mw_fbR, va_recv hK hP (ci := 2) (q0 := 0) rfl rfl, mw_puR hPc hE⟩ rfl rfl hl.1 rfl (lv_room (Nat.le_of_ble_eq_true rfl)) dX2_isWall_1 ⟨Nat.zero_le _, Nat.zero_le _⟩)) (fun v_ e_ => ?_)
  subst v_
  refine lv_aload_n hx hb dX2_isWall_4 rfl (lv_at hl 0 rfl) ?_
  refine va_get (D := D) (ci := 2) (v := .int t_size) (C := RX2) (T := TX2) (N := 2) hx hb hts (fun _ h => List.mem_cons_of_mem _ (List.mem_append_right _ (h))) hown hK hP 0 rfl rfl 1 (by decide) (hts (.fieldLink RX2 15 "MossWall$Page" "size" "I") (List.mem_cons_of_mem _ (List.mem_append_left _ (List.mem_append_left _ (List.mem_of_getElem? (i := 0) rfl))))) (fun _ h9 => h9) rfl dX2_isWall_5 ?_
  refine lv_icmp_ge (tgt := 26) hx hb dX2_isWall_8 (by decide) (fun q2 => ?_) (fun q2 => ?_)
  · replace hM := mw_t hM q2
    refine lv_iconst (v := 0) hx hb dX2_isWall_26 (by decide) ?_
    obtain rfl := mw_o1 hM
    subst hQ
    exact W.zret hx hb hr rfl (fun t ht hW => ⟨_, rfl, ⟨rfl, rfl⟩, ht⟩) (fun q h => absurd h List.not_mem_nil) dX2_isWall_27
  · replace hM := mw_f hM q2
    refine lv_aload_n hx hb dX2_isWall_11 rfl (lv_at hl 0 rfl) ?_
    obtain ⟨r3, h3, hM⟩ := mw_d1 hM
    have hPc := hP.sub (ws' := [(t, .inr (2, [.ref t_codes, .int t_size])), (t_codes, .inl (cA, 36, .inl c_t_codes))]) [0, 1] rfl
    refine vp_callSi (va_Run.run (va_runV (As := []) (rest := []) ⟨hx, hb, hml, hown, hts⟩ (kX2_faultPlace l D cA qk qv t t_codes t_size c_t_codes r3 h3) (cwV 0 hts gX2_isWall_X2_faultPlace rfl rfl rfl (by decide +kernel) ⟨Nat.le_of_ble_eq_true rfl, Nat.le_of_ble_eq_true rfl⟩) ⟨mw_fbRS, va_recv hK hP (ci := 2) (q0 := 0) rfl rfl, mw_puRS hPc hE (hV.to hS (fun _ h => h.elim))⟩ rfl rfl hl.1 rfl (lv_room (Nat.le_of_ble_eq_true rfl)) dX2_isWall_12 ⟨Nat.zero_le _, Nat.zero_le _⟩)) (fun v_ e_ => ?_)
    subst v_
    refine lv_aload_n hx hb dX2_isWall_15 rfl (lv_at hl 0 rfl) ?_
    refine va_get (D := D) (ci := 2) (v := .int t_size) (C := RX2) (T := TX2) (N := 2) hx hb hts (fun _ h => List.mem_cons_of_mem _ (List.mem_append_right _ (h))) hown hK hP 0 rfl rfl 1 (by decide) (hts (.fieldLink RX2 15 "MossWall$Page" "size" "I") (List.mem_cons_of_mem _ (List.mem_append_left _ (List.mem_append_left _ (List.mem_of_getElem? (i := 0) rfl))))) (fun _ h9 => h9) rfl dX2_isWall_16 ?_
    refine lv_icmp_ne (tgt := 26) hx hb dX2_isWall_19 (by decide) (fun q4 => ?_) (fun q4 => ?_)
    · replace hM := mw_f hM q4
      refine lv_iconst (v := 0) hx hb dX2_isWall_26 (by decide) ?_
      obtain rfl := mw_o1 hM
      subst hQ
      exact W.zret hx hb hr rfl (fun t ht hW => ⟨_, rfl, ⟨rfl, rfl⟩, ht⟩) (fun q h => absurd h List.not_mem_nil) dX2_isWall_27
    · replace hM := mw_t hM q4
      refine lv_iconst (v := 1) hx hb dX2_isWall_22 (by decide) ?_
      refine lv_goto (tgt := 27) hx hb dX2_isWall_23 (by decide) ?_
      obtain rfl := mw_o1 hM
      subst hQ
      exact W.zret hx hb hr rfl (fun t ht hW => ⟨_, rfl, ⟨rfl, rfl⟩, ht⟩) (fun q h => absurd h List.not_mem_nil) dX2_isWall_27
def mX2_copyClauses_L1 (t_size : Int32) (c_t_codes : Nat → Int32) (r1 : Int32) (k1_84 : Int32 → Int32 → (Nat → Int32) → (Nat → Int32) → (Nat → Int32) → (Nat → Int32) → Option (Int32 × (Nat → Int32) × (Nat → Int32) × (Nat → Int32) × (Nat → Int32))) : Nat → Int32 → Int32 → (Nat → Int32) → (Nat → Int32) → (Nat → Int32) → (Nat → Int32) → Option (Int32 × (Nat → Int32) × (Nat → Int32) × (Nat → Int32) × (Nat → Int32))
  | 0, _, _, _, _, _, _ => none
  | n1 + 1, x3_1, y1_p1_size, y1_p1_kinds, y1_p1_deeps, y1_p1_leans, y1_p1_moss =>
    (if r1 < (x3_1 + 4) then k1_84 x3_1 y1_p1_size y1_p1_kinds y1_p1_deeps y1_p1_leans y1_p1_moss else (mX2_codeAt t_size c_t_codes x3_1).bind fun r3 => (mJ0_indexOf_0f7a4 (mw_ch r3)).bind fun r4 => (mX2_codeAt t_size c_t_codes (x3_1 + 2)).bind fun r5 => (if r5 = 45 then (mX2_codeAt t_size c_t_codes (x3_1 + 1)).bind fun r10 => mw_b5 (mX0_add y1_p1_size y1_p1_kinds y1_p1_deeps y1_p1_leans y1_p1_moss r4 (r10 - 48) ((-1))) fun u11_p1_size u11_p1_kinds u11_p1_deeps u11_p1_leans u11_p1_moss => mX2_copyClauses_L1 t_size c_t_codes r1 k1_84 n1 (x3_1 + 4) u11_p1_size u11_p1_kinds u11_p1_deeps u11_p1_leans u11_p1_moss else (mX2_codeAt t_size c_t_codes (x3_1 + 2)).bind fun r7 => (mX2_codeAt t_size c_t_codes (x3_1 + 1)).bind fun r8 => mw_b5 (mX0_add y1_p1_size y1_p1_kinds y1_p1_deeps y1_p1_leans y1_p1_moss r4 (r8 - 48) (r7 - 48)) fun u9_p1_size u9_p1_kinds u9_p1_deeps u9_p1_leans u9_p1_moss => mX2_copyClauses_L1 t_size c_t_codes r1 k1_84 n1 (x3_1 + 4) u9_p1_size u9_p1_kinds u9_p1_deeps u9_p1_leans u9_p1_moss))
def mX2_copyClauses (t_size : Int32) (c_t_codes : Nat → Int32) (p1_size : Int32) (c_p1_kinds : Nat → Int32) (c_p1_deeps : Nat → Int32) (c_p1_leans : Nat → Int32) (c_p1_moss : Nat → Int32) : Option (Int32 × (Nat → Int32) × (Nat → Int32) × (Nat → Int32) × (Nat → Int32)) :=
  (mX2_rainPlace t_size c_t_codes).bind fun r1 => mX2_copyClauses_L1 t_size c_t_codes r1 (fun (x3_1 : Int32) (y1_p1_size : Int32) (y1_p1_kinds : Nat → Int32) (y1_p1_deeps : Nat → Int32) (y1_p1_leans : Nat → Int32) (y1_p1_moss : Nat → Int32) => some (y1_p1_size, y1_p1_kinds, y1_p1_deeps, y1_p1_leans, y1_p1_moss)) 300 0 p1_size c_p1_kinds c_p1_deeps c_p1_leans c_p1_moss
abbrev rmX2_copyClauses : Room := ({ frames := 4, cells := 0, slots := 0, locals := 91 } : Room)
set_option maxHeartbeats 4000000 in
set_option maxRecDepth 100000 in
theorem kX2_copyClauses (l : Launch) (D : va_G) (cA : ClassId) (qk qv t p1 t_codes p1_kinds p1_deeps p1_leans p1_moss : Nat) (sz : Nat) (t_size : Int32) (c_t_codes : Nat → Int32) (p1_size : Int32) (c_p1_kinds : Nat → Int32) (c_p1_deeps : Nat → Int32) (c_p1_leans : Nat → Int32) (c_p1_moss : Nat → Int32) (o_p1_size : Int32) (o_c_p1_kinds : Nat → Int32) (o_c_p1_deeps : Nat → Int32) (o_c_p1_leans : Nat → Int32) (o_c_p1_moss : Nat → Int32) (hM : mX2_copyClauses t_size c_t_codes p1_size c_p1_kinds c_p1_deeps c_p1_leans c_p1_moss = some (o_p1_size, o_c_p1_kinds, o_c_p1_deeps, o_c_p1_leans, o_c_p1_moss)) : Met l yX2_copyClauses wsX2_copyClauses rmX2_copyClauses (va_Pc [.ref t, .ref p1] (fun U => U.heap.size = sz ∧ va_P D vwCl [(t, .inr (2, [.ref t_codes, .int t_size])), (t_codes, .inl (cA, 36, .inl c_t_codes)), (p1, .inr (0, [.ref p1_kinds, .ref p1_deeps, .ref p1_leans, .ref p1_moss, .int p1_size])), (p1_kinds, .inl (cA, 6, .inl c_p1_kinds)), (p1_deeps, .inl (cA, 6, .inl c_p1_deeps)), (p1_leans, .inl (cA, 6, .inl c_p1_leans)), (p1_moss, .inl (cA, 6, .inl c_p1_moss))] U.heap ∧ mw_ev D cA U ∧ va_D (fun _ => True) [(t, .inr (2, [.ref t_codes, .int t_size])), (t_codes, .inl (cA, 36, .inl c_t_codes)), (p1, .inr (0, [.ref p1_kinds, .ref p1_deeps, .ref p1_leans, .ref p1_moss, .int p1_size])), (p1_kinds, .inl (cA, 6, .inl c_p1_kinds)), (p1_deeps, .inl (cA, 6, .inl c_p1_deeps)), (p1_leans, .inl (cA, 6, .inl c_p1_leans)), (p1_moss, .inl (cA, 6, .inl c_p1_moss))] ∧ mw_sv (va_A [(t, .inr (2, [.ref t_codes, .int t_size])), (t_codes, .inl (cA, 36, .inl c_t_codes)), (p1, .inr (0, [.ref p1_kinds, .ref p1_deeps, .ref p1_leans, .ref p1_moss, .int p1_size])), (p1_kinds, .inl (cA, 6, .inl c_p1_kinds)), (p1_deeps, .inl (cA, 6, .inl c_p1_deeps)), (p1_leans, .inl (cA, 6, .inl c_p1_leans)), (p1_moss, .inl (cA, 6, .inl c_p1_moss))] sz) qk qv U)) (va_Qv (fun (_ : Unit) => True) (fun (_ : Unit) w_ => va_P D vwCl [(t, .inr (2, [.ref t_codes, .int t_size])), (t_codes, .inl (cA, 36, .inl c_t_codes)), (p1, .inr (0, [.ref p1_kinds, .ref p1_deeps, .ref p1_leans, .ref p1_moss, .int o_p1_size])), (p1_kinds, .inl (cA, 6, .inl o_c_p1_kinds)), (p1_deeps, .inl (cA, 6, .inl o_c_p1_deeps)), (p1_leans, .inl (cA, 6, .inl o_c_p1_leans)), (p1_moss, .inl (cA, 6, .inl o_c_p1_moss))] w_.heap ∧ va_D (va_A [(t, .inr (2, [.ref t_codes, .int t_size])), (t_codes, .inl (cA, 36, .inl c_t_codes)), (p1, .inr (0, [.ref p1_kinds, .ref p1_deeps, .ref p1_leans, .ref p1_moss, .int p1_size])), (p1_kinds, .inl (cA, 6, .inl c_p1_kinds)), (p1_deeps, .inl (cA, 6, .inl c_p1_deeps)), (p1_leans, .inl (cA, 6, .inl c_p1_leans)), (p1_moss, .inl (cA, 6, .inl c_p1_moss))] sz) [(t, .inr (2, [.ref t_codes, .int t_size])), (t_codes, .inl (cA, 36, .inl c_t_codes)), (p1, .inr (0, [.ref p1_kinds, .ref p1_deeps, .ref p1_leans, .ref p1_moss, .int o_p1_size])), (p1_kinds, .inl (cA, 6, .inl o_c_p1_kinds)), (p1_deeps, .inl (cA, 6, .inl o_c_p1_deeps)), (p1_leans, .inl (cA, 6, .inl o_c_p1_leans)), (p1_moss, .inl (cA, 6, .inl o_c_p1_moss))]) (va_A [(t, .inr (2, [.ref t_codes, .int t_size])), (t_codes, .inl (cA, 36, .inl c_t_codes)), (p1, .inr (0, [.ref p1_kinds, .ref p1_deeps, .ref p1_leans, .ref p1_moss, .int p1_size])), (p1_kinds, .inl (cA, 6, .inl c_p1_kinds)), (p1_deeps, .inl (cA, 6, .inl c_p1_deeps)), (p1_leans, .inl (cA, 6, .inl c_p1_leans)), (p1_moss, .inl (cA, 6, .inl c_p1_moss))] sz)) 0 0 (va_A [(t, .inr (2, [.ref t_codes, .int t_size])), (t_codes, .inl (cA, 36, .inl c_t_codes)), (p1, .inr (0, [.ref p1_kinds, .ref p1_deeps, .ref p1_leans, .ref p1_moss, .int p1_size])), (p1_kinds, .inl (cA, 6, .inl c_p1_kinds)), (p1_deeps, .inl (cA, 6, .inl c_p1_deeps)), (p1_leans, .inl (cA, 6, .inl c_p1_leans)), (p1_moss, .inl (cA, 6, .inl c_p1_moss))] sz) := by
  unfold mX2_copyClauses at hM
  refine Met.ofW (cc := cX2_copyClauses) (maxL := 6) (ret := none) (by decide) rfl ?_
  intro p e s m args below meth c s₁ B hml hv
  obtain ⟨rfl, hsz, hP, hE, hD0, hV⟩ := hv
  have hx := B.exec
  have hb := B.bytes
  have hr := B.returns
  have hts := atoms_spec (ws := wsX2_copyClauses) B.pre
  have hown : s.vm.findClass RX2 = some m.cls := findClass_of_methodNamed B.named
  have hlocks := B.notSynchronized
  have hK := hE.1
  subst hsz
  have hD := hD0.self (sz := s.heap.size)
  generalize hAe : va_A [(t, .inr (2, [.ref t_codes, .int t_size])), (t_codes, .inl (cA, 36, .inl c_t_codes)), (p1, .inr (0, [.ref p1_kinds, .ref p1_deeps, .ref p1_leans, .ref p1_moss, .int p1_size])), (p1_kinds, .inl (cA, 6, .inl c_p1_kinds)), (p1_deeps, .inl (cA, 6, .inl c_p1_deeps)), (p1_leans, .inl (cA, 6, .inl c_p1_leans)), (p1_moss, .inl (cA, 6, .inl c_p1_moss))] s.heap.size = A at hD hV ⊢
  have hA : ∀ q : Nat, s.heap.size ≤ q → A q := fun q h => by rw [← hAe]; exact Or.inr h
  have hS : va_S A s.heap s.heap [] := va_S.rf
  have hl := lv_entry ([.ref t, .ref p1]) (n := 6) (Nat.le_of_ble_eq_true rfl)
  rw [lg_entry_eq]
  generalize (lg_sl ([.ref t, .ref p1]) ++ List.replicate (6 - (lg_sl ([.ref t, .ref p1])).length) Slot.unset).toArray = ls at hl ⊢
  have hl : lv_has ls 6 [(0, .ref t), (1, .ref p1)] := hl
  refine mw_q (P := fun Q => W p l e (headSpec wsX2_copyClauses rmX2_copyClauses).room s m (([.ref t, .ref p1] : List Value).toArray) below meth c s.heap [] 0 0 Q (F0 m 0 ls [])) (fun Q hQ => ?_)
  refine lv_aload_n hx hb dX2_copyClauses_0 rfl (lv_at hl 1 rfl) ?_
  refine lv_ifnonnull (tgt := 5) hx hb dX2_copyClauses_1 (by decide) ?_
  refine lv_aload_n hx hb dX2_copyClauses_5 rfl (lv_at hl 0 rfl) ?_
  obtain ⟨r1, h1, hM⟩ := mw_d1 hM
  have hPc := hP.sub (ws' := [(t, .inr (2, [.ref t_codes, .int t_size])), (t_codes, .inl (cA, 36, .inl c_t_codes))]) [0, 1] rfl
  refine vp_callSi (va_Run.run (va_runV (As := []) (rest := []) ⟨hx, hb, hml, hown, hts⟩ (kX2_rainPlace l D cA t t_codes t_size c_t_codes r1 h1) (cwV 0 hts gX2_copyClauses_X2_rainPlace rfl rfl rfl (by decide +kernel) ⟨Nat.le_of_ble_eq_true rfl, Nat.le_of_ble_eq_true rfl⟩) ⟨mw_fbR, va_recv hK hP (ci := 2) (q0 := 0) rfl rfl, mw_puR hPc hE⟩ rfl rfl hl.1 rfl (lv_room (Nat.le_of_ble_eq_true rfl)) dX2_copyClauses_6 ⟨Nat.zero_le _, Nat.zero_le _⟩)) (fun v_ e_ => ?_)
  subst v_
  refine lv_istore_n (lv' := [(2, .int r1), (0, .ref t), (1, .ref p1)]) hx hb dX2_copyClauses_9 rfl hl (by decide) rfl (fun ls hl => ?_)
  refine lv_iconst (v := 0) hx hb dX2_copyClauses_10 (by decide) ?_
  refine lv_istore_n (lv' := [(3, .int 0), (2, .int r1), (0, .ref t), (1, .ref p1)]) hx hb dX2_copyClauses_11 rfl hl (by decide) rfl (fun ls hl => ?_)
  obtain ⟨k1_84, jk1_84⟩ : ∃ k : Int32 → Int32 → (Nat → Int32) → (Nat → Int32) → (Nat → Int32) → (Nat → Int32) → Option (Int32 × (Nat → Int32) × (Nat → Int32) × (Nat → Int32) × (Nat → Int32)), k = fun (x3_1 : Int32) (y1_p1_size : Int32) (y1_p1_kinds : Nat → Int32) (y1_p1_deeps : Nat → Int32) (y1_p1_leans : Nat → Int32) (y1_p1_moss : Nat → Int32) => some (y1_p1_size, y1_p1_kinds, y1_p1_deeps, y1_p1_leans, y1_p1_moss) := ⟨_, rfl⟩
  have Ek1_84 : ∀ (x3_1 : Int32) (y1_p1_size : Int32) (y1_p1_kinds : Nat → Int32) (y1_p1_deeps : Nat → Int32) (y1_p1_leans : Nat → Int32) (y1_p1_moss : Nat → Int32) (H : Heap) (locs : List Loc) (ls : Array Slot), va_P D vwCl [(t, .inr (2, [.ref t_codes, .int t_size])), (t_codes, .inl (cA, 36, .inl c_t_codes)), (p1, .inr (0, [.ref p1_kinds, .ref p1_deeps, .ref p1_leans, .ref p1_moss, .int y1_p1_size])), (p1_kinds, .inl (cA, 6, .inl y1_p1_kinds)), (p1_deeps, .inl (cA, 6, .inl y1_p1_deeps)), (p1_leans, .inl (cA, 6, .inl y1_p1_leans)), (p1_moss, .inl (cA, 6, .inl y1_p1_moss))] H → va_D A [(t, .inr (2, [.ref t_codes, .int t_size])), (t_codes, .inl (cA, 36, .inl c_t_codes)), (p1, .inr (0, [.ref p1_kinds, .ref p1_deeps, .ref p1_leans, .ref p1_moss, .int y1_p1_size])), (p1_kinds, .inl (cA, 6, .inl y1_p1_kinds)), (p1_deeps, .inl (cA, 6, .inl y1_p1_deeps)), (p1_leans, .inl (cA, 6, .inl y1_p1_leans)), (p1_moss, .inl (cA, 6, .inl y1_p1_moss))] → va_S A s.heap H locs → lv_has ls 6 [(3, .int x3_1), (2, .int r1), (0, .ref t), (1, .ref p1)] → k1_84 x3_1 y1_p1_size y1_p1_kinds y1_p1_deeps y1_p1_leans y1_p1_moss = some (o_p1_size, o_c_p1_kinds, o_c_p1_deeps, o_c_p1_leans, o_c_p1_moss) → W p l e (headSpec wsX2_copyClauses rmX2_copyClauses).room s m (([.ref t, .ref p1] : List Value).toArray) below meth c H locs 0 0 Q (F0 m 84 ls []) := by
      intro x3_1 y1_p1_size y1_p1_kinds y1_p1_deeps y1_p1_leans y1_p1_moss H locs ls hP hD hS hl hM
      rw [jk1_84] at hM
      obtain ⟨rfl, rfl, rfl, rfl, rfl⟩ := mw_o5 hM
      subst hQ
      exact W.vret hx hb hr (fun t ht hW => ⟨⟨(), rfl, trivial, by rw [ht]; exact hP, hD⟩, hS.F ht⟩) hS.2.2 dX2_copyClauses_84
  have L1 : ∀ (n1 : Nat) (x3_1 : Int32) (y1_p1_size : Int32) (y1_p1_kinds : Nat → Int32) (y1_p1_deeps : Nat → Int32) (y1_p1_leans : Nat → Int32) (y1_p1_moss : Nat → Int32) (H : Heap) (locs : List Loc) (ls : Array Slot), va_P D vwCl [(t, .inr (2, [.ref t_codes, .int t_size])), (t_codes, .inl (cA, 36, .inl c_t_codes)), (p1, .inr (0, [.ref p1_kinds, .ref p1_deeps, .ref p1_leans, .ref p1_moss, .int y1_p1_size])), (p1_kinds, .inl (cA, 6, .inl y1_p1_kinds)), (p1_deeps, .inl (cA, 6, .inl y1_p1_deeps)), (p1_leans, .inl (cA, 6, .inl y1_p1_leans)), (p1_moss, .inl (cA, 6, .inl y1_p1_moss))] H → va_D A [(t, .inr (2, [.ref t_codes, .int t_size])), (t_codes, .inl (cA, 36, .inl c_t_codes)), (p1, .inr (0, [.ref p1_kinds, .ref p1_deeps, .ref p1_leans, .ref p1_moss, .int y1_p1_size])), (p1_kinds, .inl (cA, 6, .inl y1_p1_kinds)), (p1_deeps, .inl (cA, 6, .inl y1_p1_deeps)), (p1_leans, .inl (cA, 6, .inl y1_p1_leans)), (p1_moss, .inl (cA, 6, .inl y1_p1_moss))] → va_S A s.heap H locs → lv_has ls 6 [(3, .int x3_1), (2, .int r1), (0, .ref t), (1, .ref p1)] → mX2_copyClauses_L1 t_size c_t_codes r1 k1_84 n1 x3_1 y1_p1_size y1_p1_kinds y1_p1_deeps y1_p1_leans y1_p1_moss = some (o_p1_size, o_c_p1_kinds, o_c_p1_deeps, o_c_p1_leans, o_c_p1_moss) → W p l e (headSpec wsX2_copyClauses rmX2_copyClauses).room s m (([.ref t, .ref p1] : List Value).toArray) below meth c H locs 0 0 Q (F0 m 12 ls []) := by
      intro n1
      induction n1 with
      | zero =>
        intro x3_1 y1_p1_size y1_p1_kinds y1_p1_deeps y1_p1_leans y1_p1_moss H locs ls hP hD hS hl hM
        rw [mX2_copyClauses_L1] at hM
        exact mw_none hM
      | succ n1 ih1 =>
        intro x3_1 y1_p1_size y1_p1_kinds y1_p1_deeps y1_p1_leans y1_p1_moss H locs ls hP hD hS hl hM
        rw [mX2_copyClauses_L1] at hM
        refine lv_iload_n hx hb dX2_copyClauses_12 rfl (lv_at hl 0 rfl) ?_
        refine lv_iconst (v := 4) hx hb dX2_copyClauses_13 (by decide) ?_
        refine lv_iadd hx hb dX2_copyClauses_14 ?_
        refine lv_iload_n hx hb dX2_copyClauses_15 rfl (lv_at hl 1 rfl) ?_
        refine lv_icmp_gt (tgt := 84) hx hb dX2_copyClauses_16 (by decide) (fun q2 => ?_) (fun q2 => ?_)
        · replace hM := mw_t hM q2
          exact Ek1_84 x3_1 y1_p1_size y1_p1_kinds y1_p1_deeps y1_p1_leans y1_p1_moss _ _ _ hP hD hS (lv_sub hl [0, 1, 2, 3] rfl) hM
        · replace hM := mw_f hM q2
          refine va_ldcS hx hb hown hV.tx dX2_copyClauses_19 ?_
          refine lv_aload_n hx hb dX2_copyClauses_21 rfl (lv_at hl 2 rfl) ?_
          refine lv_iload_n hx hb dX2_copyClauses_22 rfl (lv_at hl 0 rfl) ?_
          obtain ⟨r3, h3, hM⟩ := mw_d1 hM
          have hPc := hP.sub (ws' := [(t, .inr (2, [.ref t_codes, .int t_size])), (t_codes, .inl (cA, 36, .inl c_t_codes))]) [0, 1] rfl
          refine vp_callSi (va_Run.run (va_runV (As := [.int x3_1]) (rest := [.ref qk]) ⟨hx, hb, hml, hown, hts⟩ (kX2_codeAt l D cA t t_codes t_size c_t_codes x3_1 r3 h3) (cwV 1 hts gX2_copyClauses_X2_codeAt rfl rfl rfl (by decide +kernel) ⟨Nat.le_of_ble_eq_true rfl, Nat.le_of_ble_eq_true rfl⟩) ⟨mw_fbR, va_recv hK hP (ci := 2) (q0 := 0) rfl rfl, mw_puR hPc hE⟩ rfl rfl hl.1 rfl (lv_room (Nat.le_of_ble_eq_true rfl)) dX2_copyClauses_23 ⟨Nat.zero_le _, Nat.zero_le _⟩)) (fun v_ e_ => ?_)
          subst v_
          refine lv_i2c (v := mw_ch r3) hx hb dX2_copyClauses_26 rfl ?_
          obtain ⟨r4, h4, hM⟩ := mw_d1 hM
          have hPc := hP.sub (ws' := []) [] rfl
          refine vp_callSi (va_Run.run (va_runV (As := [.int (mw_ch r3)]) (rest := []) ⟨hx, hb, hml, hown, hts⟩ (kJ0_indexOf_0f7a4 l D cA qk qv (mw_ch r3) r4 h4) (cwV 1 hts gX2_copyClauses_J0_indexOf_0f7a4 rfl rfl rfl (by decide +kernel) ⟨Nat.le_of_ble_eq_true rfl, Nat.le_of_ble_eq_true rfl⟩) ⟨mw_fbRS, hV.recv hS, mw_puRS hPc hE (hV.to hS (fun _ h => h.elim))⟩ rfl rfl hl.1 rfl (lv_room (Nat.le_of_ble_eq_true rfl)) dX2_copyClauses_27 ⟨Nat.zero_le _, Nat.zero_le _⟩)) (fun v_ e_ => ?_)
          subst v_
          refine lv_istore (lv' := [(4, .int r4), (3, .int x3_1), (2, .int r1), (0, .ref t), (1, .ref p1)]) hx hb dX2_copyClauses_30 hl (by decide) rfl (fun ls hl => ?_)
          refine lv_aload_n hx hb dX2_copyClauses_32 rfl (lv_at hl 3 rfl) ?_
          refine lv_iload_n hx hb dX2_copyClauses_33 rfl (lv_at hl 1 rfl) ?_
          refine lv_iconst (v := 2) hx hb dX2_copyClauses_34 (by decide) ?_
          refine lv_iadd hx hb dX2_copyClauses_35 ?_
          obtain ⟨r5, h5, hM⟩ := mw_d1 hM
          have hPc := hP.sub (ws' := [(t, .inr (2, [.ref t_codes, .int t_size])), (t_codes, .inl (cA, 36, .inl c_t_codes))]) [0, 1] rfl
          refine vp_callSi (va_Run.run (va_runV (As := [.int (x3_1 + 2)]) (rest := []) ⟨hx, hb, hml, hown, hts⟩ (kX2_codeAt l D cA t t_codes t_size c_t_codes (x3_1 + 2) r5 h5) (cwV 1 hts gX2_copyClauses_X2_codeAt rfl rfl rfl (by decide +kernel) ⟨Nat.le_of_ble_eq_true rfl, Nat.le_of_ble_eq_true rfl⟩) ⟨mw_fbR, va_recv hK hP (ci := 2) (q0 := 0) rfl rfl, mw_puR hPc hE⟩ rfl rfl hl.1 rfl (lv_room (Nat.le_of_ble_eq_true rfl)) dX2_copyClauses_36 ⟨Nat.zero_le _, Nat.zero_le _⟩)) (fun v_ e_ => ?_)
          subst v_
          refine lv_bipush (v := 45) hx hb dX2_copyClauses_39 (by decide) ?_
          refine lv_icmp_ne (tgt := 48) hx hb dX2_copyClauses_41 (by decide) (fun q6 => ?_) (fun q6 => ?_)
          · replace hM := mw_f hM q6
            refine lv_aload_n hx hb dX2_copyClauses_48 rfl (lv_at hl 3 rfl) ?_
            refine lv_iload_n hx hb dX2_copyClauses_49 rfl (lv_at hl 1 rfl) ?_
            refine lv_iconst (v := 2) hx hb dX2_copyClauses_50 (by decide) ?_
            refine lv_iadd hx hb dX2_copyClauses_51 ?_
            obtain ⟨r7, h7, hM⟩ := mw_d1 hM
            have hPc := hP.sub (ws' := [(t, .inr (2, [.ref t_codes, .int t_size])), (t_codes, .inl (cA, 36, .inl c_t_codes))]) [0, 1] rfl
            refine vp_callSi (va_Run.run (va_runV (As := [.int (x3_1 + 2)]) (rest := []) ⟨hx, hb, hml, hown, hts⟩ (kX2_codeAt l D cA t t_codes t_size c_t_codes (x3_1 + 2) r7 h7) (cwV 1 hts gX2_copyClauses_X2_codeAt rfl rfl rfl (by decide +kernel) ⟨Nat.le_of_ble_eq_true rfl, Nat.le_of_ble_eq_true rfl⟩) ⟨mw_fbR, va_recv hK hP (ci := 2) (q0 := 0) rfl rfl, mw_puR hPc hE⟩ rfl rfl hl.1 rfl (lv_room (Nat.le_of_ble_eq_true rfl)) dX2_copyClauses_52 ⟨Nat.zero_le _, Nat.zero_le _⟩)) (fun v_ e_ => ?_)
            subst v_
            refine lv_bipush (v := 48) hx hb dX2_copyClauses_55 (by decide) ?_
            refine lv_isub hx hb dX2_copyClauses_57 ?_
            refine lv_istore (lv' := [(5, .int (r7 - 48)), (4, .int r4), (3, .int x3_1), (2, .int r1), (0, .ref t), (1, .ref p1)]) hx hb dX2_copyClauses_58 hl (by decide) rfl (fun ls hl => ?_)
            refine lv_aload_n hx hb dX2_copyClauses_60 rfl (lv_at hl 5 rfl) ?_
            refine lv_iload hx hb dX2_copyClauses_61 (lv_at hl 1 rfl) ?_
            refine lv_aload_n hx hb dX2_copyClauses_63 rfl (lv_at hl 4 rfl) ?_
            refine lv_iload_n hx hb dX2_copyClauses_64 rfl (lv_at hl 2 rfl) ?_
            refine lv_iconst (v := 1) hx hb dX2_copyClauses_65 (by decide) ?_
            refine lv_iadd hx hb dX2_copyClauses_66 ?_
            obtain ⟨r8, h8, hM⟩ := mw_d1 hM
            have hPc := hP.sub (ws' := [(t, .inr (2, [.ref t_codes, .int t_size])), (t_codes, .inl (cA, 36, .inl c_t_codes))]) [0, 1] rfl
            refine vp_callSi (va_Run.run (va_runV (As := [.int (x3_1 + 1)]) (rest := [.int r4, .ref p1]) ⟨hx, hb, hml, hown, hts⟩ (kX2_codeAt l D cA t t_codes t_size c_t_codes (x3_1 + 1) r8 h8) (cwV 1 hts gX2_copyClauses_X2_codeAt rfl rfl rfl (by decide +kernel) ⟨Nat.le_of_ble_eq_true rfl, Nat.le_of_ble_eq_true rfl⟩) ⟨mw_fbR, va_recv hK hP (ci := 2) (q0 := 0) rfl rfl, mw_puR hPc hE⟩ rfl rfl hl.1 rfl (lv_room (Nat.le_of_ble_eq_true rfl)) dX2_copyClauses_67 ⟨Nat.zero_le _, Nat.zero_le _⟩)) (fun v_ e_ => ?_)
            subst v_
            refine lv_bipush (v := 48) hx hb dX2_copyClauses_70 (by decide) ?_
            refine lv_isub hx hb dX2_copyClauses_72 ?_
            refine lv_iload hx hb dX2_copyClauses_73 (lv_at hl 0 rfl) ?_
            obtain ⟨u9_p1_size, u9_p1_kinds, u9_p1_deeps, u9_p1_leans, u9_p1_moss, h9, hM⟩ := mw_d5 hM
            have hPc := hP.sub (ws' := [(p1, .inr (0, [.ref p1_kinds, .ref p1_deeps, .ref p1_leans, .ref p1_moss, .int y1_p1_size])), (p1_kinds, .inl (cA, 6, .inl y1_p1_kinds)), (p1_deeps, .inl (cA, 6, .inl y1_p1_deeps)), (p1_leans, .inl (cA, 6, .inl y1_p1_leans)), (p1_moss, .inl (cA, 6, .inl y1_p1_moss))]) [2, 3, 4, 5, 6] rfl
            have hDc := hD.sub (ws' := [(p1, .inr (0, [.ref p1_kinds, .ref p1_deeps, .ref p1_leans, .ref p1_moss, .int y1_p1_size])), (p1_kinds, .inl (cA, 6, .inl y1_p1_kinds)), (p1_deeps, .inl (cA, 6, .inl y1_p1_deeps)), (p1_leans, .inl (cA, 6, .inl y1_p1_leans)), (p1_moss, .inl (cA, 6, .inl y1_p1_moss))]) [2, 3, 4, 5, 6] (by decide) rfl
            have hFc := va_free (wc := [(p1, .inr (0, [.ref p1_kinds, .ref p1_deeps, .ref p1_leans, .ref p1_moss, .int y1_p1_size])), (p1_kinds, .inl (cA, 6, .inl y1_p1_kinds)), (p1_deeps, .inl (cA, 6, .inl y1_p1_deeps)), (p1_leans, .inl (cA, 6, .inl y1_p1_leans)), (p1_moss, .inl (cA, 6, .inl y1_p1_moss))]) hD hS hA [2, 3, 4, 5, 6] rfl
            refine va_callv (va_runV (As := [.int r4, .int (r8 - 48), .int (r7 - 48)]) (rest := []) ⟨hx, hb, hml, hown, hts⟩ (kX0_add l D cA p1 p1_kinds p1_deeps p1_leans p1_moss _ y1_p1_size y1_p1_kinds y1_p1_deeps y1_p1_leans y1_p1_moss r4 (r8 - 48) (r7 - 48) u9_p1_size u9_p1_kinds u9_p1_deeps u9_p1_leans u9_p1_moss h9) (cwV 3 hts gX2_copyClauses_X0_add rfl rfl rfl (by decide +kernel) ⟨Nat.le_of_ble_eq_true rfl, Nat.le_of_ble_eq_true rfl⟩) ⟨mw_fbW, va_recv hK hP (ci := 0) (q0 := 2) rfl rfl, mw_puW hPc hE hDc⟩ rfl rfl hl.1 rfl (lv_room (Nat.le_of_ble_eq_true rfl)) dX2_copyClauses_75 ⟨Nat.zero_le _, Nat.zero_le _⟩) hS (fun q _ h => hFc q h) hFc (fun _ t_ H locs ht_ _ _ hB_ _ hk_ hS => ?_)
            obtain ⟨hP1, hD1⟩ := hB_
            rw [ht_] at hP1
            obtain ⟨hP, hD⟩ := va_join (wr := [(t, .inr (2, [.ref t_codes, .int t_size])), (t_codes, .inl (cA, 36, .inl c_t_codes))]) (w1 := [(p1, .inr (0, [.ref p1_kinds, .ref p1_deeps, .ref p1_leans, .ref p1_moss, .int u9_p1_size])), (p1_kinds, .inl (cA, 6, .inl u9_p1_kinds)), (p1_deeps, .inl (cA, 6, .inl u9_p1_deeps)), (p1_leans, .inl (cA, 6, .inl u9_p1_leans)), (p1_moss, .inl (cA, 6, .inl u9_p1_moss))]) hP hD [2, 3, 4, 5, 6] [0, 1] rfl rfl (by decide) (by decide) hk_ hFc hP1 hD1
            have hP : va_P D vwCl [(t, .inr (2, [.ref t_codes, .int t_size])), (t_codes, .inl (cA, 36, .inl c_t_codes)), (p1, .inr (0, [.ref p1_kinds, .ref p1_deeps, .ref p1_leans, .ref p1_moss, .int u9_p1_size])), (p1_kinds, .inl (cA, 6, .inl u9_p1_kinds)), (p1_deeps, .inl (cA, 6, .inl u9_p1_deeps)), (p1_leans, .inl (cA, 6, .inl u9_p1_leans)), (p1_moss, .inl (cA, 6, .inl u9_p1_moss))] H := hP
            have hD : va_D A [(t, .inr (2, [.ref t_codes, .int t_size])), (t_codes, .inl (cA, 36, .inl c_t_codes)), (p1, .inr (0, [.ref p1_kinds, .ref p1_deeps, .ref p1_leans, .ref p1_moss, .int u9_p1_size])), (p1_kinds, .inl (cA, 6, .inl u9_p1_kinds)), (p1_deeps, .inl (cA, 6, .inl u9_p1_deeps)), (p1_leans, .inl (cA, 6, .inl u9_p1_leans)), (p1_moss, .inl (cA, 6, .inl u9_p1_moss))] := hD
            refine lv_iinc (v := x3_1 + 4) (lv' := [(3, .int (x3_1 + 4)), (5, .int (r7 - 48)), (4, .int r4), (2, .int r1), (0, .ref t), (1, .ref p1)]) hx hb dX2_copyClauses_78 hl (k := 2) rfl (by first | rfl | decide) (by decide) rfl (fun ls hl => ?_)
            refine lv_goto (tgt := 12) hx hb dX2_copyClauses_81 (by decide) ?_
            exact ih1 (x3_1 + 4) u9_p1_size u9_p1_kinds u9_p1_deeps u9_p1_leans u9_p1_moss _ _ _ hP hD hS (lv_sub hl [0, 3, 4, 5] rfl) hM
          · replace hM := mw_t hM q6
            refine lv_iconst (v := (-1)) hx hb dX2_copyClauses_44 (by decide) ?_
            refine lv_goto (tgt := 58) hx hb dX2_copyClauses_45 (by decide) ?_
            refine lv_istore (lv' := [(5, .int ((-1))), (4, .int r4), (3, .int x3_1), (2, .int r1), (0, .ref t), (1, .ref p1)]) hx hb dX2_copyClauses_58 hl (by decide) rfl (fun ls hl => ?_)
            refine lv_aload_n hx hb dX2_copyClauses_60 rfl (lv_at hl 5 rfl) ?_
            refine lv_iload hx hb dX2_copyClauses_61 (lv_at hl 1 rfl) ?_
            refine lv_aload_n hx hb dX2_copyClauses_63 rfl (lv_at hl 4 rfl) ?_
            refine lv_iload_n hx hb dX2_copyClauses_64 rfl (lv_at hl 2 rfl) ?_
            refine lv_iconst (v := 1) hx hb dX2_copyClauses_65 (by decide) ?_
            refine lv_iadd hx hb dX2_copyClauses_66 ?_
            obtain ⟨r10, h10, hM⟩ := mw_d1 hM
            have hPc := hP.sub (ws' := [(t, .inr (2, [.ref t_codes, .int t_size])), (t_codes, .inl (cA, 36, .inl c_t_codes))]) [0, 1] rfl
            refine vp_callSi (va_Run.run (va_runV (As := [.int (x3_1 + 1)]) (rest := [.int r4, .ref p1]) ⟨hx, hb, hml, hown, hts⟩ (kX2_codeAt l D cA t t_codes t_size c_t_codes (x3_1 + 1) r10 h10) (cwV 1 hts gX2_copyClauses_X2_codeAt rfl rfl rfl (by decide +kernel) ⟨Nat.le_of_ble_eq_true rfl, Nat.le_of_ble_eq_true rfl⟩) ⟨mw_fbR, va_recv hK hP (ci := 2) (q0 := 0) rfl rfl, mw_puR hPc hE⟩ rfl rfl hl.1 rfl (lv_room (Nat.le_of_ble_eq_true rfl)) dX2_copyClauses_67 ⟨Nat.zero_le _, Nat.zero_le _⟩)) (fun v_ e_ => ?_)
            subst v_
            refine lv_bipush (v := 48) hx hb dX2_copyClauses_70 (by decide) ?_
            refine lv_isub hx hb dX2_copyClauses_72 ?_
            refine lv_iload hx hb dX2_copyClauses_73 (lv_at hl 0 rfl) ?_
            obtain ⟨u11_p1_size, u11_p1_kinds, u11_p1_deeps, u11_p1_leans, u11_p1_moss, h11, hM⟩ := mw_d5 hM
            have hPc := hP.sub (ws' := [(p1, .inr (0, [.ref p1_kinds, .ref p1_deeps, .ref p1_leans, .ref p1_moss, .int y1_p1_size])), (p1_kinds, .inl (cA, 6, .inl y1_p1_kinds)), (p1_deeps, .inl (cA, 6, .inl y1_p1_deeps)), (p1_leans, .inl (cA, 6, .inl y1_p1_leans)), (p1_moss, .inl (cA, 6, .inl y1_p1_moss))]) [2, 3, 4, 5, 6] rfl
            have hDc := hD.sub (ws' := [(p1, .inr (0, [.ref p1_kinds, .ref p1_deeps, .ref p1_leans, .ref p1_moss, .int y1_p1_size])), (p1_kinds, .inl (cA, 6, .inl y1_p1_kinds)), (p1_deeps, .inl (cA, 6, .inl y1_p1_deeps)), (p1_leans, .inl (cA, 6, .inl y1_p1_leans)), (p1_moss, .inl (cA, 6, .inl y1_p1_moss))]) [2, 3, 4, 5, 6] (by decide) rfl
            have hFc := va_free (wc := [(p1, .inr (0, [.ref p1_kinds, .ref p1_deeps, .ref p1_leans, .ref p1_moss, .int y1_p1_size])), (p1_kinds, .inl (cA, 6, .inl y1_p1_kinds)), (p1_deeps, .inl (cA, 6, .inl y1_p1_deeps)), (p1_leans, .inl (cA, 6, .inl y1_p1_leans)), (p1_moss, .inl (cA, 6, .inl y1_p1_moss))]) hD hS hA [2, 3, 4, 5, 6] rfl
            refine va_callv (va_runV (As := [.int r4, .int (r10 - 48), .int ((-1))]) (rest := []) ⟨hx, hb, hml, hown, hts⟩ (kX0_add l D cA p1 p1_kinds p1_deeps p1_leans p1_moss _ y1_p1_size y1_p1_kinds y1_p1_deeps y1_p1_leans y1_p1_moss r4 (r10 - 48) ((-1)) u11_p1_size u11_p1_kinds u11_p1_deeps u11_p1_leans u11_p1_moss h11) (cwV 3 hts gX2_copyClauses_X0_add rfl rfl rfl (by decide +kernel) ⟨Nat.le_of_ble_eq_true rfl, Nat.le_of_ble_eq_true rfl⟩) ⟨mw_fbW, va_recv hK hP (ci := 0) (q0 := 2) rfl rfl, mw_puW hPc hE hDc⟩ rfl rfl hl.1 rfl (lv_room (Nat.le_of_ble_eq_true rfl)) dX2_copyClauses_75 ⟨Nat.zero_le _, Nat.zero_le _⟩) hS (fun q _ h => hFc q h) hFc (fun _ t_ H locs ht_ _ _ hB_ _ hk_ hS => ?_)
            obtain ⟨hP1, hD1⟩ := hB_
            rw [ht_] at hP1
            obtain ⟨hP, hD⟩ := va_join (wr := [(t, .inr (2, [.ref t_codes, .int t_size])), (t_codes, .inl (cA, 36, .inl c_t_codes))]) (w1 := [(p1, .inr (0, [.ref p1_kinds, .ref p1_deeps, .ref p1_leans, .ref p1_moss, .int u11_p1_size])), (p1_kinds, .inl (cA, 6, .inl u11_p1_kinds)), (p1_deeps, .inl (cA, 6, .inl u11_p1_deeps)), (p1_leans, .inl (cA, 6, .inl u11_p1_leans)), (p1_moss, .inl (cA, 6, .inl u11_p1_moss))]) hP hD [2, 3, 4, 5, 6] [0, 1] rfl rfl (by decide) (by decide) hk_ hFc hP1 hD1
            have hP : va_P D vwCl [(t, .inr (2, [.ref t_codes, .int t_size])), (t_codes, .inl (cA, 36, .inl c_t_codes)), (p1, .inr (0, [.ref p1_kinds, .ref p1_deeps, .ref p1_leans, .ref p1_moss, .int u11_p1_size])), (p1_kinds, .inl (cA, 6, .inl u11_p1_kinds)), (p1_deeps, .inl (cA, 6, .inl u11_p1_deeps)), (p1_leans, .inl (cA, 6, .inl u11_p1_leans)), (p1_moss, .inl (cA, 6, .inl u11_p1_moss))] H := hP
            have hD : va_D A [(t, .inr (2, [.ref t_codes, .int t_size])), (t_codes, .inl (cA, 36, .inl c_t_codes)), (p1, .inr (0, [.ref p1_kinds, .ref p1_deeps, .ref p1_leans, .ref p1_moss, .int u11_p1_size])), (p1_kinds, .inl (cA, 6, .inl u11_p1_kinds)), (p1_deeps, .inl (cA, 6, .inl u11_p1_deeps)), (p1_leans, .inl (cA, 6, .inl u11_p1_leans)), (p1_moss, .inl (cA, 6, .inl u11_p1_moss))] := hD
            refine lv_iinc (v := x3_1 + 4) (lv' := [(3, .int (x3_1 + 4)), (5, .int ((-1))), (4, .int r4), (2, .int r1), (0, .ref t), (1, .ref p1)]) hx hb dX2_copyClauses_78 hl (k := 2) rfl (by first | rfl | decide) (by decide) rfl (fun ls hl => ?_)
            refine lv_goto (tgt := 12) hx hb dX2_copyClauses_81 (by decide) ?_
            exact ih1 (x3_1 + 4) u11_p1_size u11_p1_kinds u11_p1_deeps u11_p1_leans u11_p1_moss _ _ _ hP hD hS (lv_sub hl [0, 3, 4, 5] rfl) hM
  exact L1 300 0 p1_size c_p1_kinds c_p1_deeps c_p1_leans c_p1_moss _ _ _ hP hD hS hl (by rw [jk1_84]; exact hM)
