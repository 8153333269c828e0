def mX7_in (p1 : Int64) (p2 : Int64) (p3 : Int64) : Option Int32 :=
  (if (lg_cmp p1 p2) < 0 then some 0 else (if 0 < (lg_cmp p1 p3) then some 0 else some 1))
abbrev rmX7_in : Room := ({ frames := 0, cells := 0, slots := 0, locals := 0 } : Room)
set_option maxHeartbeats 4000000 in
set_option maxRecDepth 100000 in
theorem kX7_in (l : Launch) (D : va_G) (cA : ClassId) (p1 : Int64) (p2 : Int64) (p3 : Int64) (r : Int32) (hM : mX7_in p1 p2 p3 = some r) : Met l yX7_in wsX7_in rmX7_in (va_Pc [.long p1, .long p2, .long p3] (fun U => va_P D vwCl [] U.heap ∧ mw_ev D cA U)) (vp_Si (fun v => v = r ∧ narrow .boolean (.int v) = .int v)) 0 0 (fun _ => False) := by
  unfold mX7_in at hM
  refine Met.ofW (cc := cX7_in) (maxL := 6) (ret := (some .boolean)) (by decide) rfl ?_
  intro p e s m args below meth c s₁ B hml hv
  obtain ⟨rfl, hP, hE⟩ := hv
  have hx := B.exec
  have hb := B.bytes
  have hr := B.returns
  have hts := atoms_spec (ws := wsX7_in) B.pre
  have hown : s.vm.findClass RX7 = some m.cls := findClass_of_methodNamed B.named
  have hlocks := B.notSynchronized
  have hK := hE.1
  have hl := lv_entry ([.long p1, .long p2, .long p3]) (n := 6) (Nat.le_of_ble_eq_true rfl)
  rw [lg_entry_eq]
  generalize (lg_sl ([.long p1, .long p2, .long p3]) ++ List.replicate (6 - (lg_sl ([.long p1, .long p2, .long p3])).length) Slot.unset).toArray = ls at hl ⊢
  have hl : lv_has ls 6 [(0, .long p1), (2, .long p2), (4, .long p3)] := hl
  refine mw_q (P := fun Q => W p l e (headSpec wsX7_in rmX7_in).room s m (([.long p1, .long p2, .long p3] : List Value).toArray) below meth c s.heap [] 0 0 Q (F0 m 0 ls [])) (fun Q hQ => ?_)
  refine lv_lload_n hx hb dX7_in_0 rfl (lv_at hl 0 rfl) ?_
  refine lv_lload_n hx hb dX7_in_1 rfl (lv_at hl 1 rfl) ?_
  refine W.lcmp hx hb dX7_in_2 ?_
  refine lv_if_lt (tgt := 17) hx hb dX7_in_3 (by decide) (fun q1 => ?_) (fun q1 => ?_)
  · replace hM := mw_t hM q1
    refine lv_iconst (v := 0) hx hb dX7_in_17 (by decide) ?_
    obtain rfl := mw_o1 hM
    subst hQ
    exact W.zret hx hb hr rfl (fun t ht hW => ⟨_, rfl, ⟨rfl, rfl⟩, ht⟩) (fun q h => absurd h List.not_mem_nil) dX7_in_18
  · replace hM := mw_f hM q1
    refine lv_lload_n hx hb dX7_in_6 rfl (lv_at hl 0 rfl) ?_
    refine lv_lload hx hb dX7_in_7 (lv_at hl 2 rfl) ?_
    refine W.lcmp hx hb dX7_in_9 ?_
    refine lv_if_gt (tgt := 17) hx hb dX7_in_10 (by decide) (fun q2 => ?_) (fun q2 => ?_)
    · replace hM := mw_t hM q2
      refine lv_iconst (v := 0) hx hb dX7_in_17 (by decide) ?_
      obtain rfl := mw_o1 hM
      subst hQ
      exact W.zret hx hb hr rfl (fun t ht hW => ⟨_, rfl, ⟨rfl, rfl⟩, ht⟩) (fun q h => absurd h List.not_mem_nil) dX7_in_18
    · replace hM := mw_f hM q2
      refine lv_iconst (v := 1) hx hb dX7_in_13 (by decide) ?_
      refine lv_goto (tgt := 18) hx hb dX7_in_14 (by decide) ?_
      obtain rfl := mw_o1 hM
      subst hQ
      exact W.zret hx hb hr rfl (fun t ht hW => ⟨_, rfl, ⟨rfl, rfl⟩, ht⟩) (fun q h => absurd h List.not_mem_nil) dX7_in_18
def mX7_copy_L1 (n_p1 : Nat) (c_p1 : Nat → Int32) (n_p2 : Nat) (k1_20 : Int32 → (Nat → Int32) → Option ((Nat → Int32))) : Nat → Int32 → (Nat → Int32) → Option ((Nat → Int32))
  | 0, _, _ => none
  | n1 + 1, x2_1, y1_p2 =>
    (if (Int32.ofNat n_p1) ≤ x2_1 then k1_20 x2_1 y1_p2 else (mw_rd c_p1 n_p1 x2_1).bind fun e2 => (mw_wr y1_p2 n_p2 x2_1 e2).bind fun a3_p2 => mX7_copy_L1 n_p1 c_p1 n_p2 k1_20 n1 (x2_1 + 1) a3_p2)
def mX7_copy (n_p1 : Nat) (c_p1 : Nat → Int32) (n_p2 : Nat) (c_p2 : Nat → Int32) : Option ((Nat → Int32)) :=
  mX7_copy_L1 n_p1 c_p1 n_p2 (fun (x2_1 : Int32) (y1_p2 : Nat → Int32) => some y1_p2) 300 0 c_p2
abbrev rmX7_copy : Room := ({ frames := 0, cells := 0, slots := 0, locals := 0 } : Room)
set_option maxHeartbeats 4000000 in
set_option maxRecDepth 100000 in
theorem kX7_copy (l : Launch) (D : va_G) (cA : ClassId) (p1 p2 : Nat) (sz : Nat) (n_p1 : Nat) (c_p1 : Nat → Int32) (n_p2 : Nat) (c_p2 : Nat → Int32) (o_c_p2 : Nat → Int32) (hM : mX7_copy n_p1 c_p1 n_p2 c_p2 = some o_c_p2) : Met l yX7_copy wsX7_copy rmX7_copy (va_Pc [.ref p1, .ref p2] (fun U => U.heap.size = sz ∧ va_P D vwCl [(p1, .inl (cA, n_p1, .inl c_p1)), (p2, .inl (cA, n_p2, .inl c_p2))] U.heap ∧ mw_ev D cA U ∧ va_D (fun _ => True) [(p1, .inl (cA, n_p1, .inl c_p1)), (p2, .inl (cA, n_p2, .inl c_p2))])) (va_Qv (fun (_ : Unit) => True) (fun (_ : Unit) w_ => va_P D vwCl [(p1, .inl (cA, n_p1, .inl c_p1)), (p2, .inl (cA, n_p2, .inl o_c_p2))] w_.heap ∧ va_D (va_A [(p1, .inl (cA, n_p1, .inl c_p1)), (p2, .inl (cA, n_p2, .inl c_p2))] sz) [(p1, .inl (cA, n_p1, .inl c_p1)), (p2, .inl (cA, n_p2, .inl o_c_p2))]) (va_A [(p1, .inl (cA, n_p1, .inl c_p1)), (p2, .inl (cA, n_p2, .inl c_p2))] sz)) 0 0 (va_A [(p1, .inl (cA, n_p1, .inl c_p1)), (p2, .inl (cA, n_p2, .inl c_p2))] sz) := by
  unfold mX7_copy at hM
  refine Met.ofW (cc := cX7_copy) (maxL := 3) (ret := none) (by decide) rfl ?_
  intro p e s m args below meth c s₁ B hml hv
  obtain ⟨rfl, hsz, hP, hE, hD0⟩ := hv
  have hx := B.exec
  have hb := B.bytes
  have hr := B.returns
  have hts := atoms_spec (ws := wsX7_copy) B.pre
  have hown : s.vm.findClass RX7 = some m.cls := findClass_of_methodNamed B.named
  have hlocks := B.notSynchronized
  have hK := hE.1
  subst hsz
  have hD := hD0.self (sz := s.heap.size)
  generalize hAe : va_A [(p1, .inl (cA, n_p1, .inl c_p1)), (p2, .inl (cA, n_p2, .inl c_p2))] s.heap.size = A at hD ⊢
  have hA : ∀ q : Nat, s.heap.size ≤ q → A q := fun q h => by rw [← hAe]; exact Or.inr h
  have hS : va_S A s.heap s.heap [] := va_S.rf
  have hl := lv_entry ([.ref p1, .ref p2]) (n := 3) (Nat.le_of_ble_eq_true rfl)
  rw [lg_entry_eq]
  generalize (lg_sl ([.ref p1, .ref p2]) ++ List.replicate (3 - (lg_sl ([.ref p1, .ref p2])).length) Slot.unset).toArray = ls at hl ⊢
  have hl : lv_has ls 3 [(0, .ref p1), (1, .ref p2)] := hl
  refine mw_q (P := fun Q => W p l e (headSpec wsX7_copy rmX7_copy).room s m (([.ref p1, .ref p2] : List Value).toArray) below meth c s.heap [] 0 0 Q (F0 m 0 ls [])) (fun Q hQ => ?_)
  refine lv_iconst (v := 0) hx hb dX7_copy_0 (by decide) ?_
  refine lv_istore_n (lv' := [(2, .int 0), (0, .ref p1), (1, .ref p2)]) hx hb dX7_copy_1 rfl hl (by decide) rfl (fun ls hl => ?_)
  obtain ⟨k1_20, jk1_20⟩ : ∃ k : Int32 → (Nat → Int32) → Option ((Nat → Int32)), k = fun (x2_1 : Int32) (y1_p2 : Nat → Int32) => some y1_p2 := ⟨_, rfl⟩
  have Ek1_20 : ∀ (x2_1 : Int32) (y1_p2 : Nat → Int32) (H : Heap) (locs : List Loc) (ls : Array Slot), va_P D vwCl [(p1, .inl (cA, n_p1, .inl c_p1)), (p2, .inl (cA, n_p2, .inl y1_p2))] H → va_D A [(p1, .inl (cA, n_p1, .inl c_p1)), (p2, .inl (cA, n_p2, .inl y1_p2))] → va_S A s.heap H locs → lv_has ls 3 [(2, .int x2_1), (0, .ref p1), (1, .ref p2)] → k1_20 x2_1 y1_p2 = some o_c_p2 → W p l e (headSpec wsX7_copy rmX7_copy).room s m (([.ref p1, .ref p2] : List Value).toArray) below meth c H locs 0 0 Q (F0 m 20 ls []) := by
      intro x2_1 y1_p2 H locs ls hP hD hS hl hM
      rw [jk1_20] at hM
      obtain rfl := mw_o1 hM
      subst hQ
      exact W.vret hx hb hr (fun t ht hW => ⟨⟨(), rfl, trivial, by rw [ht]; exact hP, hD⟩, hS.F ht⟩) hS.2.2 dX7_copy_20
  have L1 : ∀ (n1 : Nat) (x2_1 : Int32) (y1_p2 : Nat → Int32) (H : Heap) (locs : List Loc) (ls : Array Slot), va_P D vwCl [(p1, .inl (cA, n_p1, .inl c_p1)), (p2, .inl (cA, n_p2, .inl y1_p2))] H → va_D A [(p1, .inl (cA, n_p1, .inl c_p1)), (p2, .inl (cA, n_p2, .inl y1_p2))] → va_S A s.heap H locs → lv_has ls 3 [(2, .int x2_1), (0, .ref p1), (1, .ref p2)] → mX7_copy_L1 n_p1 c_p1 n_p2 k1_20 n1 x2_1 y1_p2 = some o_c_p2 → W p l e (headSpec wsX7_copy rmX7_copy).room s m (([.ref p1, .ref p2] : List Value).toArray) below meth c H locs 0 0 Q (F0 m 2 ls []) := by
      intro n1
      induction n1 with
      | zero =>
        intro x2_1 y1_p2 H locs ls hP hD hS hl hM
        rw [mX7_copy_L1] at hM
        exact mw_none hM
      | succ n1 ih1 =>
        intro x2_1 y1_p2 H locs ls hP hD hS hl hM
        rw [mX7_copy_L1] at hM
        refine lv_iload_n hx hb dX7_copy_2 rfl (lv_at hl 0 rfl) ?_
        refine lv_aload_n hx hb dX7_copy_3 rfl (lv_at hl 1 rfl) ?_
        refine va_alen (ty := .int) (v := Int32.ofNat n_p1) hx hb hK hP 0 0 rfl rfl rfl dX7_copy_4 ?_
        refine lv_icmp_ge (tgt := 20) hx hb dX7_copy_5 (by decide) (fun q1 => ?_) (fun q1 => ?_)
        · replace hM := mw_t hM q1
          exact Ek1_20 x2_1 y1_p2 _ _ _ hP hD hS (lv_sub hl [0, 1, 2] rfl) hM
        · replace hM := mw_f hM q1
          refine lv_aload_n hx hb dX7_copy_8 rfl (lv_at hl 2 rfl) ?_
          refine lv_iload_n hx hb dX7_copy_9 rfl (lv_at hl 0 rfl) ?_
          refine lv_aload_n hx hb dX7_copy_10 rfl (lv_at hl 1 rfl) ?_
          refine lv_iload_n hx hb dX7_copy_11 rfl (lv_at hl 0 rfl) ?_
          obtain ⟨e2, h2, hM⟩ := mw_d1 hM
          refine mw_iald hx hb hK hP 0 0 rfl rfl h2 dX7_copy_12 ?_
          obtain ⟨a3_p2, h3, hM⟩ := mw_d1 hM
          refine mw_iast hx hb hK hP hD hS 1 0 rfl rfl h3 dX7_copy_13 (fun H locs hP hD hS => ?_)
          have hP : va_P D vwCl [(p1, .inl (cA, n_p1, .inl c_p1)), (p2, .inl (cA, n_p2, .inl a3_p2))] H := hP
          have hD : va_D A [(p1, .inl (cA, n_p1, .inl c_p1)), (p2, .inl (cA, n_p2, .inl a3_p2))] := hD
          refine lv_iinc (v := x2_1 + 1) (lv' := [(2, .int (x2_1 + 1)), (0, .ref p1), (1, .ref p2)]) hx hb dX7_copy_14 hl (k := 0) rfl (by first | rfl | decide) (by decide) rfl (fun ls hl => ?_)
          refine lv_goto (tgt := 2) hx hb dX7_copy_17 (by decide) ?_
          exact ih1 (x2_1 + 1) a3_p2 _ _ _ hP hD hS (lv_sub hl [0, 1, 2] rfl) hM
  exact L1 300 0 c_p2 _ _ _ hP hD hS hl (by rw [jk1_20]; exact hM)
def mX7_ones_L1 (p1 : Int32) (k1_24 : Int32 → Int32 → Option Int32) : Nat → Int32 → Int32 → Option Int32
  | 0, _, _ => none
  | n1 + 1, x2_1, x1_1 =>
    (if 6 ≤ x2_1 then k1_24 x2_1 x1_1 else mX7_ones_L1 p1 k1_24 n1 (x2_1 + 1) (x1_1 + ((p1 >>> (x2_1 &&& 31)) &&& 1)))
def mX7_ones (p1 : Int32) : Option Int32 :=
  mX7_ones_L1 p1 (fun (x2_1 : Int32) (x1_1 : Int32) => some x1_1) 300 0 0
abbrev rmX7_ones : Room := ({ frames := 0, cells := 0, slots := 0, locals := 0 } : Room)
set_option maxHeartbeats 4000000 in
set_option maxRecDepth 100000 in
theorem kX7_ones (l : Launch) (D : va_G) (cA : ClassId) (p1 : Int32) (r : Int32) (hM : mX7_ones p1 = some r) : Met l yX7_ones wsX7_ones rmX7_ones (va_Pc [.int p1] (fun U => va_P D vwCl [] U.heap ∧ mw_ev D cA U)) (vp_Si (fun v => v = r)) 0 0 (fun _ => False) := by
  unfold mX7_ones at hM
  refine Met.ofW (cc := cX7_ones) (maxL := 3) (ret := (some .int)) (by decide) rfl ?_
  intro p e s m args below meth c s₁ B hml hv
  obtain ⟨rfl, hP, hE⟩ := hv
  have hx := B.exec
  have hb := B.bytes
  have hr := B.returns
  have hts := atoms_spec (ws := wsX7_ones) B.pre
  have hown : s.vm.findClass RX7 = some m.cls := findClass_of_methodNamed B.named
  have hlocks := B.notSynchronized
  have hK := hE.1
  have hl := lv_entry ([.int p1]) (n := 3) (Nat.le_of_ble_eq_true rfl)
  rw [lg_entry_eq]
  generalize (lg_sl ([.int p1]) ++ List.replicate (3 - (lg_sl ([.int p1])).length) Slot.unset).toArray = ls at hl ⊢
  have hl : lv_has ls 3 [(0, .int p1)] := hl
  refine mw_q (P := fun Q => W p l e (headSpec wsX7_ones rmX7_ones).room s m (([.int p1] : List Value).toArray) below meth c s.heap [] 0 0 Q (F0 m 0 ls [])) (fun Q hQ => ?_)
  refine lv_iconst (v := 0) hx hb dX7_ones_0 (by decide) ?_
  refine lv_istore_n (lv' := [(1, .int 0), (0, .int p1)]) hx hb dX7_ones_1 rfl hl (by decide) rfl (fun ls hl => ?_)
  refine lv_iconst (v := 0) hx hb dX7_ones_2 (by decide) ?_
  refine lv_istore_n (lv' := [(2, .int 0), (1, .int 0), (0, .int p1)]) hx hb dX7_ones_3 rfl hl (by decide) rfl (fun ls hl => ?_)
  obtain ⟨k1_24, jk1_24⟩ : ∃ k : Int32 → Int32 → Option Int32, k = fun (x2_1 : Int32) (x1_1 : Int32) => some x1_1 := ⟨_, rfl⟩
  have Ek1_24 : ∀ (x2_1 : Int32) (x1_1 : Int32) (ls : Array Slot), lv_has ls 3 [(2, .int x2_1), (1, .int x1_1), (0, .int p1)] → k1_24 x2_1 x1_1 = some r → W p l e (headSpec wsX7_ones rmX7_ones).room s m (([.int p1] : List Value).toArray) below meth c s.heap [] 0 0 Q (F0 m 24 ls []) := by
      intro x2_1 x1_1 ls hl hM
      rw [jk1_24] at hM
      refine lv_iload_n hx hb dX7_ones_24 rfl (lv_at hl 1 rfl) ?_
      obtain rfl := mw_o1 hM
      subst hQ
      exact W.iret hx hb hr (fun t ht hW => ⟨_, rfl, rfl, ht⟩) (fun q h => absurd h List.not_mem_nil) dX7_ones_25
  have L1 : ∀ (n1 : Nat) (x2_1 : Int32) (x1_1 : Int32) (ls : Array Slot), lv_has ls 3 [(2, .int x2_1), (1, .int x1_1), (0, .int p1)] → mX7_ones_L1 p1 k1_24 n1 x2_1 x1_1 = some r → W p l e (headSpec wsX7_ones rmX7_ones).room s m (([.int p1] : List Value).toArray) below meth c s.heap [] 0 0 Q (F0 m 4 ls []) := by
      intro n1
      induction n1 with
      | zero =>
        intro x2_1 x1_1 ls hl hM
        rw [mX7_ones_L1] at hM
        exact mw_none hM
      | succ n1 ih1 =>
        intro x2_1 x1_1 ls hl hM
        rw [mX7_ones_L1] at hM
        refine lv_iload_n hx hb dX7_ones_4 rfl (lv_at hl 0 rfl) ?_
        refine lv_bipush (v := 6) hx hb dX7_ones_5 (by decide) ?_
        refine lv_icmp_ge (tgt := 24) hx hb dX7_ones_7 (by decide) (fun q1 => ?_) (fun q1 => ?_)
        · replace hM := mw_t hM q1
          exact Ek1_24 x2_1 x1_1 _ (lv_sub hl [0, 1, 2] rfl) hM
        · replace hM := mw_f hM q1
          refine lv_iload_n hx hb dX7_ones_10 rfl (lv_at hl 1 rfl) ?_
          refine lv_iload_n hx hb dX7_ones_11 rfl (lv_at hl 2 rfl) ?_
          refine lv_iload_n hx hb dX7_ones_12 rfl (lv_at hl 0 rfl) ?_
          refine lv_ishr hx hb dX7_ones_13 ?_
          refine lv_iconst (v := 1) hx hb dX7_ones_14 (by decide) ?_
          refine lv_iand hx hb dX7_ones_15 ?_
          refine lv_iadd hx hb dX7_ones_16 ?_
          refine lv_istore_n (lv' := [(1, .int (x1_1 + ((p1 >>> (x2_1 &&& 31)) &&& 1))), (2, .int x2_1), (0, .int p1)]) hx hb dX7_ones_17 rfl hl (by decide) rfl (fun ls hl => ?_)
          refine lv_iinc (v := x2_1 + 1) (lv' := [(2, .int (x2_1 + 1)), (1, .int (x1_1 + ((p1 >>> (x2_1 &&& 31)) &&& 1))), (0, .int p1)]) hx hb dX7_ones_18 hl (k := 1) rfl (by first | rfl | decide) (by decide) rfl (fun ls hl => ?_)
          refine lv_goto (tgt := 4) hx hb dX7_ones_21 (by decide) ?_
          exact ih1 (x2_1 + 1) (x1_1 + ((p1 >>> (x2_1 &&& 31)) &&& 1)) _ (lv_sub hl [0, 1, 2] rfl) hM
  exact L1 300 0 0 _ hl (by rw [jk1_24]; exact hM)
def mX7_letter (t_pageMany : Int32) (c_t_page : Nat → Int32) (p1 : Int32) : Option (Int32 × Int32 × (Nat → Int32)) :=
  (mX7_in (Int32.toInt64 p1) 1 126).bind fun r1 => (if r1 = 0 then some ((-102), t_pageMany, c_t_page) else (if t_pageMany = 36 then some ((-104), t_pageMany, c_t_page) else (mw_wr c_t_page 36 t_pageMany p1).bind fun a4_page => some (t_pageMany + 1, t_pageMany + 1, a4_page)))
abbrev rmX7_letter : Room := ({ frames := 1, cells := 0, slots := 0, locals := 25 } : Room)
set_option maxHeartbeats 4000000 in
set_option maxRecDepth 100000 in
theorem kX7_letter (l : Launch) (D : va_G) (cA : ClassId) (t t_page t_kinds t_deep t_leans t_moss t_rain t_mossThen t_when t_sights t_keptKinds t_keptDeep t_keptLeans t_keptMoss t_keptSights : Nat) (sz : Nat) (t_pageMany : Int32) (t_end : Int32) (t_clauses : Int32) (t_rains : Int32) (t_weekNext : Int32) (t_breaths : Int32) (t_wallsRead : Int32) (t_needsDone : Int32) (t_seenMany : Int32) (t_seedNow : Int32) (t_keptWall : Int32) (t_keptWeek : Int32) (t_keptBreaths : Int32) (t_keptSeen : Int32) (t_hash : Int64) (c_t_page : Nat → Int32) (p1 : Int32) (r : Int32) (o_t_pageMany : Int32) (o_c_t_page : Nat → Int32) (hM : mX7_letter t_pageMany c_t_page p1 = some (r, o_t_pageMany, o_c_t_page)) : Met l yX7_letter wsX7_letter rmX7_letter (va_Pc [.ref t, .int p1] (fun U => U.heap.size = sz ∧ va_P D vwCl [(t, .inr (7, [.ref t_page, .int t_pageMany, .int t_end, .int t_clauses, .int t_rains, .int t_weekNext, .int t_breaths, .int t_wallsRead, .ref t_kinds, .ref t_deep, .ref t_leans, .ref t_moss, .ref t_rain, .ref t_mossThen, .ref t_when, .int t_needsDone, .int t_seenMany, .ref t_sights, .int t_seedNow, .int t_keptWall, .int t_keptWeek, .int t_keptBreaths, .int t_keptSeen, .ref t_keptKinds, .ref t_keptDeep, .ref t_keptLeans, .ref t_keptMoss, .ref t_keptSights, .long t_hash])), (t_page, .inl (cA, 36, .inl c_t_page))] U.heap ∧ mw_ev D cA U ∧ va_D (fun _ => True) [(t, .inr (7, [.ref t_page, .int t_pageMany, .int t_end, .int t_clauses, .int t_rains, .int t_weekNext, .int t_breaths, .int t_wallsRead, .ref t_kinds, .ref t_deep, .ref t_leans, .ref t_moss, .ref t_rain, .ref t_mossThen, .ref t_when, .int t_needsDone, .int t_seenMany, .ref t_sights, .int t_seedNow, .int t_keptWall, .int t_keptWeek, .int t_keptBreaths, .int t_keptSeen, .ref t_keptKinds, .ref t_keptDeep, .ref t_keptLeans, .ref t_keptMoss, .ref t_keptSights, .long t_hash])), (t_page, .inl (cA, 36, .inl c_t_page))])) (va_Qi (fun (v : Int32) (_ : Unit) => v = r) (fun (_ : Unit) w_ => va_P D vwCl [(t, .inr (7, [.ref t_page, .int o_t_pageMany, .int t_end, .int t_clauses, .int t_rains, .int t_weekNext, .int t_breaths, .int t_wallsRead, .ref t_kinds, .ref t_deep, .ref t_leans, .ref t_moss, .ref t_rain, .ref t_mossThen, .ref t_when, .int t_needsDone, .int t_seenMany, .ref t_sights, .int t_seedNow, .int t_keptWall, .int t_keptWeek, .int t_keptBreaths, .int t_keptSeen, .ref t_keptKinds, .ref t_keptDeep, .ref t_keptLeans, .ref t_keptMoss, .ref t_keptSights, .long t_hash])), (t_page, .inl (cA, 36, .inl o_c_t_page))] w_.heap ∧ va_D (va_A [(t, .inr (7, [.ref t_page, .int t_pageMany, .int t_end, .int t_clauses, .int t_rains, .int t_weekNext, .int t_breaths, .int t_wallsRead, .ref t_kinds, .ref t_deep, .ref t_leans, .ref t_moss, .ref t_rain, .ref t_mossThen, .ref t_when, .int t_needsDone, .int t_seenMany, .ref t_sights, .int t_seedNow, .int t_keptWall, .int t_keptWeek, .int t_keptBreaths, .int t_keptSeen, .ref t_keptKinds, .ref t_keptDeep, .ref t_keptLeans, .ref t_keptMoss, .ref t_keptSights, .long t_hash])), (t_page, .inl (cA, 36, .inl c_t_page))] sz) [(t, .inr (7, [.ref t_page, .int o_t_pageMany, .int t_end, .int t_clauses, .int t_rains, .int t_weekNext, .int t_breaths, .int t_wallsRead, .ref t_kinds, .ref t_deep, .ref t_leans, .ref t_moss, .ref t_rain, .ref t_mossThen, .ref t_when, .int t_needsDone, .int t_seenMany, .ref t_sights, .int t_seedNow, .int t_keptWall, .int t_keptWeek, .int t_keptBreaths, .int t_keptSeen, .ref t_keptKinds, .ref t_keptDeep, .ref t_keptLeans, .ref t_keptMoss, .ref t_keptSights, .long t_hash])), (t_page, .inl (cA, 36, .inl o_c_t_page))]) (va_A [(t, .inr (7, [.ref t_page, .int t_pageMany, .int t_end, .int t_clauses, .int t_rains, .int t_weekNext, .int t_breaths, .int t_wallsRead, .ref t_kinds, .ref t_deep, .ref t_leans, .ref t_moss, .ref t_rain, .ref t_mossThen, .ref t_when, .int t_needsDone, .int t_seenMany, .ref t_sights, .int t_seedNow, .int t_keptWall, .int t_keptWeek, .int t_keptBreaths, .int t_keptSeen, .ref t_keptKinds, .ref t_keptDeep, .ref t_keptLeans, .ref t_keptMoss, .ref t_keptSights, .long t_hash])), (t_page, .inl (cA, 36, .inl c_t_page))] sz)) 0 0 (va_A [(t, .inr (7, [.ref t_page, .int t_pageMany, .int t_end, .int t_clauses, .int t_rains, .int t_weekNext, .int t_breaths, .int t_wallsRead, .ref t_kinds, .ref t_deep, .ref t_leans, .ref t_moss, .ref t_rain, .ref t_mossThen, .ref t_when, .int t_needsDone, .int t_seenMany, .ref t_sights, .int t_seedNow, .int t_keptWall, .int t_keptWeek, .int t_keptBreaths, .int t_keptSeen, .ref t_keptKinds, .ref t_keptDeep, .ref t_keptLeans, .ref t_keptMoss, .ref t_keptSights, .long t_hash])), (t_page, .inl (cA, 36, .inl c_t_page))] sz) := by
  unfold mX7_letter at hM
  refine Met.ofW (cc := cX7_letter) (maxL := 2) (ret := (some .int)) (by decide) rfl ?_
  intro p e s m args below meth c s₁ B hml hv
  obtain ⟨rfl, hsz, hP, hE, hD0⟩ := hv
  have hx := B.exec
  have hb := B.bytes
  have hr := B.returns
  have hts := atoms_spec (ws := wsX7_letter) B.pre
  have hown : s.vm.findClass RX7 = some m.cls := findClass_of_methodNamed B.named
  have hlocks := B.notSynchronized
  have hK := hE.1
  subst hsz
  have hD := hD0.self (sz := s.heap.size)
  generalize hAe : va_A [(t, .inr (7, [.ref t_page, .int t_pageMany, .int t_end, .int t_clauses, .int t_rains, .int t_weekNext, .int t_breaths, .int t_wallsRead, .ref t_kinds, .ref t_deep, .ref t_leans, .ref t_moss, .ref t_rain, .ref t_mossThen, .ref t_when, .int t_needsDone, .int t_seenMany, .ref t_sights, .int t_seedNow, .int t_keptWall, .int t_keptWeek, .int t_keptBreaths, .int t_keptSeen, .ref t_keptKinds, .ref t_keptDeep, .ref t_keptLeans, .ref t_keptMoss, .ref t_keptSights, .long t_hash])), (t_page, .inl (cA, 36, .inl c_t_page))] s.heap.size = A at hD ⊢
  have hA : ∀ q : Nat, s.heap.size ≤ q → A q := fun q h => by rw [← hAe]; exact Or.inr h
  have hS : va_S A s.heap s.heap [] := va_S.rf
  have hl := lv_entry ([.ref t, .int p1]) (n := 2) (Nat.le_of_ble_eq_true rfl)
  rw [lg_entry_eq]
  generalize (lg_sl ([.ref t, .int p1]) ++ List.replicate (2 - (lg_sl ([.ref t, .int p1])).length) Slot.unset).toArray = ls at hl ⊢
  have hl : lv_has ls 2 [(0, .ref t), (1, .int p1)] := hl
  refine mw_q (P := fun Q => W p l e (headSpec wsX7_letter rmX7_letter).room s m (([.ref t, .int p1] : List Value).toArray) below meth c s.heap [] 0 0 Q (F0 m 0 ls [])) (fun Q hQ => ?_)
  refine lv_iload_n hx hb dX7_letter_0 rfl (lv_at hl 1 rfl) ?_
  refine lv_i2l (v := Int32.toInt64 p1) hx hb dX7_letter_1 rfl ?_
  refine lv_lconst (v := 1) hx hb dX7_letter_2 (by decide) ?_
  refine lv_ldc2 (v := 126) hx hb hown (hts (.constantLong RX7 56 (126)) (List.mem_cons_of_mem _ (List.mem_append_left _ (List.mem_of_getElem? (i := 0) rfl)))) dX7_letter_3 ?_
  obtain ⟨r1, h1, hM⟩ := mw_d1 hM
  have hPc := hP.sub (ws' := []) [] rfl
  refine vp_callSi (va_Run.run (va_runS (As := [.long (Int32.toInt64 p1), .long 1, .long 126]) (rest := []) ⟨hx, hb, hml, hown, hts⟩ (kX7_in l D cA (Int32.toInt64 p1) 1 126 r1 h1) (va_cwS 3 hts gX7_letter_X7_in rfl rfl rfl (by decide +kernel) ⟨Nat.le_of_ble_eq_true rfl, Nat.le_of_ble_eq_true rfl⟩) ⟨mw_fbR, mw_puR hPc hE⟩ rfl rfl hl.1 rfl (lv_room (Nat.le_of_ble_eq_true rfl)) dX7_letter_6 ⟨Nat.zero_le _, Nat.zero_le _⟩)) (fun v_ e_ => ?_)
  obtain ⟨e_, b1⟩ := e_
  subst v_
  refine lv_if_ne (tgt := 15) hx hb dX7_letter_9 (by decide) (fun q2 => ?_) (fun q2 => ?_)
  · replace hM := mw_f hM q2
    refine lv_aload_n hx hb dX7_letter_15 rfl (lv_at hl 0 rfl) ?_
    refine va_get (D := D) (ci := 7) (v := .int t_pageMany) (C := RX7) (T := TX7) (N := 29) hx hb hts (fun _ h => List.mem_cons_of_mem _ (List.mem_append_right _ (h))) hown hK hP 0 rfl rfl 1 (by decide) (hts (.fieldLink RX7 62 "MossWallModel" "pageMany" "I") (List.mem_cons_of_mem _ (List.mem_append_left _ (List.mem_of_getElem? (i := 1) rfl)))) (fun _ h9 => h9) rfl dX7_letter_16 ?_
    refine lv_bipush (v := 36) hx hb dX7_letter_19 (by decide) ?_
    refine lv_icmp_ne (tgt := 27) hx hb dX7_letter_21 (by decide) (fun q3 => ?_) (fun q3 => ?_)
    · replace hM := mw_f hM q3
      refine lv_aload_n hx hb dX7_letter_27 rfl (lv_at hl 0 rfl) ?_
      refine va_get (D := D) (ci := 7) (v := .ref t_page) (C := RX7) (T := TX7) (N := 29) hx hb hts (fun _ h => List.mem_cons_of_mem _ (List.mem_append_right _ (h))) hown hK hP 0 rfl rfl 0 (by decide) (hts (.fieldLink RX7 7 "MossWallModel" "page" "[I") (List.mem_cons_of_mem _ (List.mem_append_left _ (List.mem_of_getElem? (i := 2) rfl)))) (fun _ h9 => h9) rfl dX7_letter_28 ?_
      refine lv_aload_n hx hb dX7_letter_31 rfl (lv_at hl 0 rfl) ?_
      refine va_get (D := D) (ci := 7) (v := .int t_pageMany) (C := RX7) (T := TX7) (N := 29) hx hb hts (fun _ h => List.mem_cons_of_mem _ (List.mem_append_right _ (h))) hown hK hP 0 rfl rfl 1 (by decide) (hts (.fieldLink RX7 62 "MossWallModel" "pageMany" "I") (List.mem_cons_of_mem _ (List.mem_append_left _ (List.mem_of_getElem? (i := 1) rfl)))) (fun _ h9 => h9) rfl dX7_letter_32 ?_
      refine lv_iload_n hx hb dX7_letter_35 rfl (lv_at hl 1 rfl) ?_
      obtain ⟨a4_page, h4, hM⟩ := mw_d1 hM
      refine mw_iast hx hb hK hP hD hS 1 0 rfl rfl h4 dX7_letter_36 (fun H locs hP hD hS => ?_)
      have hP : va_P D vwCl [(t, .inr (7, [.ref t_page, .int t_pageMany, .int t_end, .int t_clauses, .int t_rains, .int t_weekNext, .int t_breaths, .int t_wallsRead, .ref t_kinds, .ref t_deep, .ref t_leans, .ref t_moss, .ref t_rain, .ref t_mossThen, .ref t_when, .int t_needsDone, .int t_seenMany, .ref t_sights, .int t_seedNow, .int t_keptWall, .int t_keptWeek, .int t_keptBreaths, .int t_keptSeen, .ref t_keptKinds, .ref t_keptDeep, .ref t_keptLeans, .ref t_keptMoss, .ref t_keptSights, .long t_hash])), (t_page, .inl (cA, 36, .inl a4_page))] H := hP
      have hD : va_D A [(t, .inr (7, [.ref t_page, .int t_pageMany, .int t_end, .int t_clauses, .int t_rains, .int t_weekNext, .int t_breaths, .int t_wallsRead, .ref t_kinds, .ref t_deep, .ref t_leans, .ref t_moss, .ref t_rain, .ref t_mossThen, .ref t_when, .int t_needsDone, .int t_seenMany, .ref t_sights, .int t_seedNow, .int t_keptWall, .int t_keptWeek, .int t_keptBreaths, .int t_keptSeen, .ref t_keptKinds, .ref t_keptDeep, .ref t_keptLeans, .ref t_keptMoss, .ref t_keptSights, .long t_hash])), (t_page, .inl (cA, 36, .inl a4_page))] := hD
      refine lv_aload_n hx hb dX7_letter_37 rfl (lv_at hl 0 rfl) ?_
      refine lv_dup hx hb dX7_letter_38 rfl ?_
      refine va_get (D := D) (ci := 7) (v := .int t_pageMany) (C := RX7) (T := TX7) (N := 29) hx hb hts (fun _ h => List.mem_cons_of_mem _ (List.mem_append_right _ (h))) hown hK hP 0 rfl rfl 1 (by decide) (hts (.fieldLink RX7 62 "MossWallModel" "pageMany" "I") (List.mem_cons_of_mem _ (List.mem_append_left _ (List.mem_of_getElem? (i := 1) rfl)))) (fun _ h9 => h9) rfl dX7_letter_39 ?_
      refine lv_iconst (v := 1) hx hb dX7_letter_42 (by decide) ?_
      refine lv_iadd hx hb dX7_letter_43 ?_
      refine va_put (D := D) (ci := 7) (v := .int (t_pageMany + 1)) (ty := .int) (C := RX7) (T := TX7) (N := 29) hx hb hts (fun _ h => List.mem_cons_of_mem _ (List.mem_append_right _ (h))) tyX7 tyX7_ok nmX7 hown hK hP hD hS 0 rfl rfl 1 (by decide) (hts (.fieldLink RX7 62 "MossWallModel" "pageMany" "I") (List.mem_cons_of_mem _ (List.mem_append_left _ (List.mem_of_getElem? (i := 1) rfl)))) (fun _ h9 => h9) rfl (by decide +kernel) rfl rfl (Nat.le_of_ble_eq_true rfl) dX7_letter_44 (fun H locs hP hD hS => ?_)
      have hP : va_P D vwCl [(t, .inr (7, [.ref t_page, .int (t_pageMany + 1), .int t_end, .int t_clauses, .int t_rains, .int t_weekNext, .int t_breaths, .int t_wallsRead, .ref t_kinds, .ref t_deep, .ref t_leans, .ref t_moss, .ref t_rain, .ref t_mossThen, .ref t_when, .int t_needsDone, .int t_seenMany, .ref t_sights, .int t_seedNow, .int t_keptWall, .int t_keptWeek, .int t_keptBreaths, .int t_keptSeen, .ref t_keptKinds, .ref t_keptDeep, .ref t_keptLeans, .ref t_keptMoss, .ref t_keptSights, .long t_hash])), (t_page, .inl (cA, 36, .inl a4_page))] H := hP
      have hD : va_D A [(t, .inr (7, [.ref t_page, .int (t_pageMany + 1), .int t_end, .int t_clauses, .int t_rains, .int t_weekNext, .int t_breaths, .int t_wallsRead, .ref t_kinds, .ref t_deep, .ref t_leans, .ref t_moss, .ref t_rain, .ref t_mossThen, .ref t_when, .int t_needsDone, .int t_seenMany, .ref t_sights, .int t_seedNow, .int t_keptWall, .int t_keptWeek, .int t_keptBreaths, .int t_keptSeen, .ref t_keptKinds, .ref t_keptDeep, .ref t_keptLeans, .ref t_keptMoss, .ref t_keptSights, .long t_hash])), (t_page, .inl (cA, 36, .inl a4_page))] := hD
      refine lv_aload_n hx hb dX7_letter_47 rfl (lv_at hl 0 rfl) ?_
      refine va_get (D := D) (ci := 7) (v := .int (t_pageMany + 1)) (C := RX7) (T := TX7) (N := 29) hx hb hts (fun _ h => List.mem_cons_of_mem _ (List.mem_append_right _ (h))) hown hK hP 0 rfl rfl 1 (by decide) (hts (.fieldLink RX7 62 "MossWallModel" "pageMany" "I") (List.mem_cons_of_mem _ (List.mem_append_left _ (List.mem_of_getElem? (i := 1) rfl)))) (fun _ h9 => h9) rfl dX7_letter_48 ?_
      obtain ⟨rfl, rfl, rfl⟩ := mw_o3 hM
      subst hQ
      exact W.iret hx hb hr (fun t ht hW => ⟨⟨_, (), rfl, rfl, by rw [ht]; exact hP, hD⟩, hS.F ht⟩) hS.2.2 dX7_letter_51
    · replace hM := mw_t hM q3
      refine lv_bipush (v := (-104)) hx hb dX7_letter_24 (by decide) ?_
      obtain ⟨rfl, rfl, rfl⟩ := mw_o3 hM
      subst hQ
      exact W.iret hx hb hr (fun t ht hW => ⟨⟨_, (), rfl, rfl, by rw [ht]; exact hP, hD⟩, hS.F ht⟩) hS.2.2 dX7_letter_26
  · replace hM := mw_t hM q2
    refine lv_bipush (v := (-102)) hx hb dX7_letter_12 (by decide) ?_
    obtain ⟨rfl, rfl, rfl⟩ := mw_o3 hM
    subst hQ
    exact W.iret hx hb hr (fun t ht hW => ⟨⟨_, (), rfl, rfl, by rw [ht]; exact hP, hD⟩, hS.F ht⟩) hS.2.2 dX7_letter_14
def mX7_blank (t_pageMany : Int32) : Option (Int32 × Int32) :=
  some (t_pageMany, 0)
abbrev rmX7_blank : Room := ({ frames := 0, cells := 0, slots := 0, locals := 0 } : Room)
set_option maxHeartbeats 4000000 in
set_option maxRecDepth 100000 in
theorem kX7_blank (l : Launch) (D : va_G) (cA : ClassId) (t t_page t_kinds t_deep t_leans t_moss t_rain t_mossThen t_when t_sights t_keptKinds t_keptDeep t_keptLeans t_keptMoss t_keptSights : Nat) (sz : Nat) (t_pageMany : Int32) (t_end : Int32) (t_clauses : Int32) (t_rains : Int32) (t_weekNext : Int32) (t_breaths : Int32) (t_wallsRead : Int32) (t_needsDone : Int32) (t_seenMany : Int32) (t_seedNow : Int32) (t_keptWall : Int32) (t_keptWeek : Int32) (t_keptBreaths : Int32) (t_keptSeen : Int32) (t_hash : Int64) (r : Int32) (o_t_pageMany : Int32) (hM : mX7_blank t_pageMany = some (r, o_t_pageMany)) : Met l yX7_blank wsX7_blank rmX7_blank (va_Pc [.ref t] (fun U => U.heap.size = sz ∧ va_P D vwCl [(t, .inr (7, [.ref t_page, .int t_pageMany, .int t_end, .int t_clauses, .int t_rains, .int t_weekNext, .int t_breaths, .int t_wallsRead, .ref t_kinds, .ref t_deep, .ref t_leans, .ref t_moss, .ref t_rain, .ref t_mossThen, .ref t_when, .int t_needsDone, .int t_seenMany, .ref t_sights, .int t_seedNow, .int t_keptWall, .int t_keptWeek, .int t_keptBreaths, .int t_keptSeen, .ref t_keptKinds, .ref t_keptDeep, .ref t_keptLeans, .ref t_keptMoss, .ref t_keptSights, .long t_hash]))] U.heap ∧ mw_ev D cA U ∧ va_D (fun _ => True) [(t, .inr (7, [.ref t_page, .int t_pageMany, .int t_end, .int t_clauses, .int t_rains, .int t_weekNext, .int t_breaths, .int t_wallsRead, .ref t_kinds, .ref t_deep, .ref t_leans, .ref t_moss, .ref t_rain, .ref t_mossThen, .ref t_when, .int t_needsDone, .int t_seenMany, .ref t_sights, .int t_seedNow, .int t_keptWall, .int t_keptWeek, .int t_keptBreaths, .int t_keptSeen, .ref t_keptKinds, .ref t_keptDeep, .ref t_keptLeans, .ref t_keptMoss, .ref t_keptSights, .long t_hash]))])) (va_Qi (fun (v : Int32) (_ : Unit) => v = r) (fun (_ : Unit) w_ => va_P D vwCl [(t, .inr (7, [.ref t_page, .int o_t_pageMany, .int t_end, .int t_clauses, .int t_rains, .int t_weekNext, .int t_breaths, .int t_wallsRead, .ref t_kinds, .ref t_deep, .ref t_leans, .ref t_moss, .ref t_rain, .ref t_mossThen, .ref t_when, .int t_needsDone, .int t_seenMany, .ref t_sights, .int t_seedNow, .int t_keptWall, .int t_keptWeek, .int t_keptBreaths, .int t_keptSeen, .ref t_keptKinds, .ref t_keptDeep, .ref t_keptLeans, .ref t_keptMoss, .ref t_keptSights, .long t_hash]))] w_.heap ∧ va_D (va_A [(t, .inr (7, [.ref t_page, .int t_pageMany, .int t_end, .int t_clauses, .int t_rains, .int t_weekNext, .int t_breaths, .int t_wallsRead, .ref t_kinds, .ref t_deep, .ref t_leans, .ref t_moss, .ref t_rain, .ref t_mossThen, .ref t_when, .int t_needsDone, .int t_seenMany, .ref t_sights, .int t_seedNow, .int t_keptWall, .int t_keptWeek, .int t_keptBreaths, .int t_keptSeen, .ref t_keptKinds, .ref t_keptDeep, .ref t_keptLeans, .ref t_keptMoss, .ref t_keptSights, .long t_hash]))] sz) [(t, .inr (7, [.ref t_page, .int o_t_pageMany, .int t_end, .int t_clauses, .int t_rains, .int t_weekNext, .int t_breaths, .int t_wallsRead, .ref t_kinds, .ref t_deep, .ref t_leans, .ref t_moss, .ref t_rain, .ref t_mossThen, .ref t_when, .int t_needsDone, .int t_seenMany, .ref t_sights, .int t_seedNow, .int t_keptWall, .int t_keptWeek, .int t_keptBreaths, .int t_keptSeen, .ref t_keptKinds, .ref t_keptDeep, .ref t_keptLeans, .ref t_keptMoss, .ref t_keptSights, .long t_hash]))]) (va_A [(t, .inr (7, [.ref t_page, .int t_pageMany, .int t_end, .int t_clauses, .int t_rains, .int t_weekNext, .int t_breaths, .int t_wallsRead, .ref t_kinds, .ref t_deep, .ref t_leans, .ref t_moss, .ref t_rain, .ref t_mossThen, .ref t_when, .int t_needsDone, .int t_seenMany, .ref t_sights, .int t_seedNow, .int t_keptWall, .int t_keptWeek, .int t_keptBreaths, .int t_keptSeen, .ref t_keptKinds, .ref t_keptDeep, .ref t_keptLeans, .ref t_keptMoss, .ref t_keptSights, .long t_hash]))] sz)) 0 0 (va_A [(t, .inr (7, [.ref t_page, .int t_pageMany, .int t_end, .int t_clauses, .int t_rains, .int t_weekNext, .int t_breaths, .int t_wallsRead, .ref t_kinds, .ref t_deep, .ref t_leans, .ref t_moss, .ref t_rain, .ref t_mossThen, .ref t_when, .int t_needsDone, .int t_seenMany, .ref t_sights, .int t_seedNow, .int t_keptWall, .int t_keptWeek, .int t_keptBreaths, .int t_keptSeen, .ref t_keptKinds, .ref t_keptDeep, .ref t_keptLeans, .ref t_keptMoss, .ref t_keptSights, .long t_hash]))] sz) := by
  unfold mX7_blank at hM
  refine Met.ofW (cc := cX7_blank) (maxL := 2) (ret := (some .int)) (by decide) rfl ?_
  intro p e s m args below meth c s₁ B hml hv
  obtain ⟨rfl, hsz, hP, hE, hD0⟩ := hv
  have hx := B.exec
  have hb := B.bytes
  have hr := B.returns
  have hts := atoms_spec (ws := wsX7_blank) B.pre
  have hown : s.vm.findClass RX7 = some m.cls := findClass_of_methodNamed B.named
  have hlocks := B.notSynchronized
  have hK := hE.1
  subst hsz
  have hD := hD0.self (sz := s.heap.size)
  generalize hAe : va_A [(t, .inr (7, [.ref t_page, .int t_pageMany, .int t_end, .int t_clauses, .int t_rains, .int t_weekNext, .int t_breaths, .int t_wallsRead, .ref t_kinds, .ref t_deep, .ref t_leans, .ref t_moss, .ref t_rain, .ref t_mossThen, .ref t_when, .int t_needsDone, .int t_seenMany, .ref t_sights, .int t_seedNow, .int t_keptWall, .int t_keptWeek, .int t_keptBreaths, .int t_keptSeen, .ref t_keptKinds, .ref t_keptDeep, .ref t_keptLeans, .ref t_keptMoss, .ref t_keptSights, .long t_hash]))] s.heap.size = A at hD ⊢
  have hA : ∀ q : Nat, s.heap.size ≤ q → A q := fun q h => by rw [← hAe]; exact Or.inr h
  have hS : va_S A s.heap s.heap [] := va_S.rf
  have hl := lv_entry ([.ref t]) (n := 2) (Nat.le_of_ble_eq_true rfl)
  rw [lg_entry_eq]
  generalize (lg_sl ([.ref t]) ++ List.replicate (2 - (lg_sl ([.ref t])).length) Slot.unset).toArray = ls at hl ⊢
  have hl : lv_has ls 2 [(0, .ref t)] := hl
  refine mw_q (P := fun Q => W p l e (headSpec wsX7_blank rmX7_blank).room s m (([.ref t] : List Value).toArray) below meth c s.heap [] 0 0 Q (F0 m 0 ls [])) (fun Q hQ => ?_)
  refine lv_aload_n hx hb dX7_blank_0 rfl (lv_at hl 0 rfl) ?_
  refine va_get (D := D) (ci := 7) (v := .int t_pageMany) (C := RX7) (T := TX7) (N := 29) hx hb hts (fun _ h => List.mem_cons_of_mem _ (List.mem_append_right _ (h))) hown hK hP 0 rfl rfl 1 (by decide) (hts (.fieldLink RX7 62 "MossWallModel" "pageMany" "I") (List.mem_cons_of_mem _ (List.mem_append_left _ (List.mem_of_getElem? (i := 0) rfl)))) (fun _ h9 => h9) rfl dX7_blank_1 ?_
  refine lv_istore_n (lv' := [(1, .int t_pageMany), (0, .ref t)]) hx hb dX7_blank_4 rfl hl (by decide) rfl (fun ls hl => ?_)
  refine lv_aload_n hx hb dX7_blank_5 rfl (lv_at hl 1 rfl) ?_
  refine lv_iconst (v := 0) hx hb dX7_blank_6 (by decide) ?_
  refine va_put (D := D) (ci := 7) (v := .int 0) (ty := .int) (C := RX7) (T := TX7) (N := 29) hx hb hts (fun _ h => List.mem_cons_of_mem _ (List.mem_append_right _ (h))) tyX7 tyX7_ok nmX7 hown hK hP hD hS 0 rfl rfl 1 (by decide) (hts (.fieldLink RX7 62 "MossWallModel" "pageMany" "I") (List.mem_cons_of_mem _ (List.mem_append_left _ (List.mem_of_getElem? (i := 0) rfl)))) (fun _ h9 => h9) rfl (by decide +kernel) rfl rfl (Nat.le_of_ble_eq_true rfl) dX7_blank_7 (fun H locs hP hD hS => ?_)
  have hP : va_P D vwCl [(t, .inr (7, [.ref t_page, .int 0, .int t_end, .int t_clauses, .int t_rains, .int t_weekNext, .int t_breaths, .int t_wallsRead, .ref t_kinds, .ref t_deep, .ref t_leans, .ref t_moss, .ref t_rain, .ref t_mossThen, .ref t_when, .int t_needsDone, .int t_seenMany, .ref t_sights, .int t_seedNow, .int t_keptWall, .int t_keptWeek, .int t_keptBreaths, .int t_keptSeen, .ref t_keptKinds, .ref t_keptDeep, .ref t_keptLeans, .ref t_keptMoss, .ref t_keptSights, .long t_hash]))] H := hP
  have hD : va_D A [(t, .inr (7, [.ref t_page, .int 0, .int t_end, .int t_clauses, .int t_rains, .int t_weekNext, .int t_breaths, .int t_wallsRead, .ref t_kinds, .ref t_deep, .ref t_leans, .ref t_moss, .ref t_rain, .ref t_mossThen, .ref t_when, .int t_needsDone, .int t_seenMany, .ref t_sights, .int t_seedNow, .int t_keptWall, .int t_keptWeek, .int t_keptBreaths, .int t_keptSeen, .ref t_keptKinds, .ref t_keptDeep, .ref t_keptLeans, .ref t_keptMoss, .ref t_keptSights, .long t_hash]))] := hD
  refine lv_iload_n hx hb dX7_blank_10 rfl (lv_at hl 0 rfl) ?_
  obtain ⟨rfl, rfl⟩ := mw_o2 hM
  subst hQ
  exact W.iret hx hb hr (fun t ht hW => ⟨⟨_, (), rfl, rfl, by rw [ht]; exact hP, hD⟩, hS.F ht⟩) hS.2.2 dX7_blank_11
def mX7_kindBy (p1 : Int32) : Option Int32 :=
  (if p1 = 99 then some 0 else (if p1 = 100 then some 1 else (if p1 = 102 then some 3 else (if p1 = 115 then some 2 else (if p1 = 119 then some 4 else some ((-1)))))))
abbrev rmX7_kindBy : Room := ({ frames := 0, cells := 0, slots := 0, locals := 0 } : Room)
set_option maxHeartbeats 4000000 in
set_option maxRecDepth 100000 in
theorem kX7_kindBy (l : Launch) (D : va_G) (cA : ClassId) (p1 : Int32) (r : Int32) (hM : mX7_kindBy p1 = some r) : Met l yX7_kindBy wsX7_kindBy rmX7_kindBy (va_Pc [.int p1] (fun U => va_P D vwCl [] U.heap ∧ mw_ev D cA U)) (vp_Si (fun v => v = r)) 0 0 (fun _ => False) := by
  unfold mX7_kindBy at hM
  refine Met.ofW (cc := cX7_kindBy) (maxL := 1) (ret := (some .int)) (by decide) rfl ?_
  intro p e s m args below meth c s₁ B hml hv
  obtain ⟨rfl, hP, hE⟩ := hv
  have hx := B.exec
  have hb := B.bytes
  have hr := B.returns
  have hts := atoms_spec (ws := wsX7_kindBy) B.pre
  have hown : s.vm.findClass RX7 = some m.cls := findClass_of_methodNamed B.named
  have hlocks := B.notSynchronized
  have hK := hE.1
  have hl := lv_entry ([.int p1]) (n := 1) (Nat.le_of_ble_eq_true rfl)
  rw [lg_entry_eq]
  generalize (lg_sl ([.int p1]) ++ List.replicate (1 - (lg_sl ([.int p1])).length) Slot.unset).toArray = ls at hl ⊢
  have hl : lv_has ls 1 [(0, .int p1)] := hl
  refine mw_q (P := fun Q => W p l e (headSpec wsX7_kindBy rmX7_kindBy).room s m (([.int p1] : List Value).toArray) below meth c s.heap [] 0 0 Q (F0 m 0 ls [])) (fun Q hQ => ?_)
  refine lv_iload_n hx hb dX7_kindBy_0 rfl (lv_at hl 0 rfl) ?_
  by_cases q1 : p1 = 99
  · replace hM := mw_t hM q1
    refine mw_look (off := 51) (tgt := 52) hx hb q1 dX7_kindBy_1 (by decide) (by decide) (by decide) ?_
    refine lv_iconst (v := 0) hx hb dX7_kindBy_52 (by decide) ?_
    obtain rfl := mw_o1 hM
    subst hQ
    exact W.iret hx hb hr (fun t ht hW => ⟨_, rfl, rfl, ht⟩) (fun q h => absurd h List.not_mem_nil) dX7_kindBy_53
  replace hM := mw_f hM q1
  by_cases q2 : p1 = 100
  · replace hM := mw_t hM q2
    refine mw_look (off := 53) (tgt := 54) hx hb q2 dX7_kindBy_1 (by decide) (by decide) (by decide) ?_
    refine lv_iconst (v := 1) hx hb dX7_kindBy_54 (by decide) ?_
    obtain rfl := mw_o1 hM
    subst hQ
    exact W.iret hx hb hr (fun t ht hW => ⟨_, rfl, rfl, ht⟩) (fun q h => absurd h List.not_mem_nil) dX7_kindBy_55
  replace hM := mw_f hM q2
  by_cases q3 : p1 = 102
  · replace hM := mw_t hM q3
    refine mw_look (off := 57) (tgt := 58) hx hb q3 dX7_kindBy_1 (by decide) (by decide) (by decide) ?_
    refine lv_iconst (v := 3) hx hb dX7_kindBy_58 (by decide) ?_
    obtain rfl := mw_o1 hM
    subst hQ
    exact W.iret hx hb hr (fun t ht hW => ⟨_, rfl, rfl, ht⟩) (fun q h => absurd h List.not_mem_nil) dX7_kindBy_59
  replace hM := mw_f hM q3
  by_cases q4 : p1 = 115
  · replace hM := mw_t hM q4
    refine mw_look (off := 55) (tgt := 56) hx hb q4 dX7_kindBy_1 (by decide) (by decide) (by decide) ?_
    refine lv_iconst (v := 2) hx hb dX7_kindBy_56 (by decide) ?_
    obtain rfl := mw_o1 hM
    subst hQ
    exact W.iret hx hb hr (fun t ht hW => ⟨_, rfl, rfl, ht⟩) (fun q h => absurd h List.not_mem_nil) dX7_kindBy_57
  replace hM := mw_f hM q4
  by_cases q5 : p1 = 119
  · replace hM := mw_t hM q5
    refine mw_look (off := 59) (tgt := 60) hx hb q5 dX7_kindBy_1 (by decide) (by decide) (by decide) ?_
    refine lv_iconst (v := 4) hx hb dX7_kindBy_60 (by decide) ?_
    obtain rfl := mw_o1 hM
    subst hQ
    exact W.iret hx hb hr (fun t ht hW => ⟨_, rfl, rfl, ht⟩) (fun q h => absurd h List.not_mem_nil) dX7_kindBy_61
  replace hM := mw_f hM q5
  refine lv_lookup (off := 61) (tgt := 62) hx hb dX7_kindBy_1 (by decide) ((lv_osw q1 (by decide)).trans ((lv_osw q2 (by decide)).trans ((lv_osw q3 (by decide)).trans ((lv_osw q4 (by decide)).trans ((lv_osw q5 (by decide)).trans (rfl)))))) (by decide) ?_
  refine lv_iconst (v := (-1)) hx hb dX7_kindBy_62 (by decide) ?_
  obtain rfl := mw_o1 hM
  subst hQ
  exact W.iret hx hb hr (fun t ht hW => ⟨_, rfl, rfl, ht⟩) (fun q h => absurd h List.not_mem_nil) dX7_kindBy_63
def mX7_isClauseLetter (t_end : Int32) (c_t_page : Nat → Int32) (p1 : Int32) : Option (Int32 × Int32) :=
  (mw_rd c_t_page 36 p1).bind fun e1 => (if (mw_re p1 4) = 0 then (mX7_kindBy e1).bind fun r3 => (if r3 = ((-1)) then some (0, t_end) else some (1, t_end)) else (if (mw_re p1 4) = 1 then (mX7_in (Int32.toInt64 e1) 49 57).bind fun r6 => some (r6, t_end) else (if (mw_re p1 4) = 2 then (if e1 = 45 then some (1, t_end) else (mX7_in (Int32.toInt64 e1) 48 (Int32.toInt64 ((48 + (p1 / 4)) - 1))).bind fun r9 => (if r9 = 0 then some (0, t_end) else some (1, t_end))) else (if e1 = 59 then (if e1 = 59 then some (1, p1) else (if e1 = 44 then (if 23 ≤ p1 then some (0, p1) else some (1, p1)) else some (0, p1))) else (if e1 = 59 then some (1, 0) else (if e1 = 44 then (if 23 ≤ p1 then some (0, 0) else some (1, 0)) else some (0, 0)))))))
abbrev rmX7_isClauseLetter : Room := ({ frames := 1, cells := 0, slots := 0, locals := 25 } : Room)
set_option maxHeartbeats 4000000 in
set_option maxRecDepth 100000 in
theorem kX7_isClauseLetter (l : Launch) (D : va_G) (cA : ClassId) (t t_page t_kinds t_deep t_leans t_moss t_rain t_mossThen t_when t_sights t_keptKinds t_keptDeep t_keptLeans t_keptMoss t_keptSights : Nat) (sz : Nat) (t_pageMany : Int32) (t_end : Int32) (t_clauses : Int32) (t_rains : Int32) (t_weekNext : Int32) (t_breaths : Int32) (t_wallsRead : Int32) (t_needsDone : Int32) (t_seenMany : Int32) (t_seedNow : Int32) (t_keptWall : Int32) (t_keptWeek : Int32) (t_keptBreaths : Int32) (t_keptSeen : Int32) (t_hash : Int64) (c_t_page : Nat → Int32) (p1 : Int32) (r : Int32) (o_t_end : Int32) (hM : mX7_isClauseLetter t_end c_t_page p1 = some (r, o_t_end)) : Met l yX7_isClauseLetter wsX7_isClauseLetter rmX7_isClauseLetter (va_Pc [.ref t, .int p1] (fun U => U.heap.size = sz ∧ va_P D vwCl [(t, .inr (7, [.ref t_page, .int t_pageMany, .int t_end, .int t_clauses, .int t_rains, .int t_weekNext, .int t_breaths, .int t_wallsRead, .ref t_kinds, .ref t_deep, .ref t_leans, .ref t_moss, .ref t_rain, .ref t_mossThen, .ref t_when, .int t_needsDone, .int t_seenMany, .ref t_sights, .int t_seedNow, .int t_keptWall, .int t_keptWeek, .int t_keptBreaths, .int t_keptSeen, .ref t_keptKinds, .ref t_keptDeep, .ref t_keptLeans, .ref t_keptMoss, .ref t_keptSights, .long t_hash])), (t_page, .inl (cA, 36, .inl c_t_page))] U.heap ∧ mw_ev D cA U ∧ va_D (fun _ => True) [(t, .inr (7, [.ref t_page, .int t_pageMany, .int t_end, .int t_clauses, .int t_rains, .int t_weekNext, .int t_breaths, .int t_wallsRead, .ref t_kinds, .ref t_deep, .ref t_leans, .ref t_moss, .ref t_rain, .ref t_mossThen, .ref t_when, .int t_needsDone, .int t_seenMany, .ref t_sights, .int t_seedNow, .int t_keptWall, .int t_keptWeek, .int t_keptBreaths, .int t_keptSeen, .ref t_keptKinds, .ref t_keptDeep, .ref t_keptLeans, .ref t_keptMoss, .ref t_keptSights, .long t_hash])), (t_page, .inl (cA, 36, .inl c_t_page))])) (va_Qi (fun (v : Int32) (_ : Unit) => v = r ∧ narrow .boolean (.int v) = .int v) (fun (_ : Unit) w_ => va_P D vwCl [(t, .inr (7, [.ref t_page, .int t_pageMany, .int o_t_end, .int t_clauses, .int t_rains, .int t_weekNext, .int t_breaths, .int t_wallsRead, .ref t_kinds, .ref t_deep, .ref t_leans, .ref t_moss, .ref t_rain, .ref t_mossThen, .ref t_when, .int t_needsDone, .int t_seenMany, .ref t_sights, .int t_seedNow, .int t_keptWall, .int t_keptWeek, .int t_keptBreaths, .int t_keptSeen, .ref t_keptKinds, .ref t_keptDeep, .ref t_keptLeans, .ref t_keptMoss, .ref t_keptSights, .long t_hash])), (t_page, .inl (cA, 36, .inl c_t_page))] w_.heap ∧ va_D (va_A [(t, .inr (7, [.ref t_page, .int t_pageMany, .int t_end, .int t_clauses, .int t_rains, .int t_weekNext, .int t_breaths, .int t_wallsRead, .ref t_kinds, .ref t_deep, .ref t_leans, .ref t_moss, .ref t_rain, .ref t_mossThen, .ref t_when, .int t_needsDone, .int t_seenMany, .ref t_sights, .int t_seedNow, .int t_keptWall, .int t_keptWeek, .int t_keptBreaths, .int t_keptSeen, .ref t_keptKinds, .ref t_keptDeep, .ref t_keptLeans, .ref t_keptMoss, .ref t_keptSights, .long t_hash])), (t_page, .inl (cA, 36, .inl c_t_page))] sz) [(t, .inr (7, [.ref t_page, .int t_pageMany, .int o_t_end, .int t_clauses, .int t_rains, .int t_weekNext, .int t_breaths, .int t_wallsRead, .ref t_kinds, .ref t_deep, .ref t_leans, .ref t_moss, .ref t_rain, .ref t_mossThen, .ref t_when, .int t_needsDone, .int t_seenMany, .ref t_sights, .int t_seedNow, .int t_keptWall, .int t_keptWeek, .int t_keptBreaths, .int t_keptSeen, .ref t_keptKinds, .ref t_keptDeep, .ref t_keptLeans, .ref t_keptMoss, .ref t_keptSights, .long t_hash])), (t_page, .inl (cA, 36, .inl c_t_page))]) (va_A [(t, .inr (7, [.ref t_page, .int t_pageMany, .int t_end, .int t_clauses, .int t_rains, .int t_weekNext, .int t_breaths, .int t_wallsRead, .ref t_kinds, .ref t_deep, .ref t_leans, .ref t_moss, .ref t_rain, .ref t_mossThen, .ref t_when, .int t_needsDone, .int t_seenMany, .ref t_sights, .int t_seedNow, .int t_keptWall, .int t_keptWeek, .int t_keptBreaths, .int t_keptSeen, .ref t_keptKinds, .ref t_keptDeep, .ref t_keptLeans, .ref t_keptMoss, .ref t_keptSights, .long t_hash])), (t_page, .inl (cA, 36, .inl c_t_page))] sz)) 0 0 (va_A [(t, .inr (7, [.ref t_page, .int t_pageMany, .int t_end, .int t_clauses, .int t_rains, .int t_weekNext, .int t_breaths, .int t_wallsRead, .ref t_kinds, .ref t_deep, .ref t_leans, .ref t_moss, .ref t_rain, .ref t_mossThen, .ref t_when, .int t_needsDone, .int t_seenMany, .ref t_sights, .int t_seedNow, .int t_keptWall, .int t_keptWeek, .int t_keptBreaths, .int t_keptSeen, .ref t_keptKinds, .ref t_keptDeep, .ref t_keptLeans, .ref t_keptMoss, .ref t_keptSights, .long t_hash])), (t_page, .inl (cA, 36, .inl c_t_page))] sz) := by
  unfold mX7_isClauseLetter at hM
  refine Met.ofW (cc := cX7_isClauseLetter) (maxL := 3) (ret := (some .boolean)) (by decide) rfl ?_
  intro p e s m args below meth c s₁ B hml hv
  obtain ⟨rfl, hsz, hP, hE, hD0⟩ := hv
  have hx := B.exec
  have hb := B.bytes
  have hr := B.returns
  have hts := atoms_spec (ws := wsX7_isClauseLetter) B.pre
  have hown : s.vm.findClass RX7 = some m.cls := findClass_of_methodNamed B.named
  have hlocks := B.notSynchronized
  have hK := hE.1
  subst hsz
  have hD := hD0.self (sz := s.heap.size)
  generalize hAe : va_A [(t, .inr (7, [.ref t_page, .int t_pageMany, .int t_end, .int t_clauses, .int t_rains, .int t_weekNext, .int t_breaths, .int t_wallsRead, .ref t_kinds, .ref t_deep, .ref t_leans, .ref t_moss, .ref t_rain, .ref t_mossThen, .ref t_when, .int t_needsDone, .int t_seenMany, .ref t_sights, .int t_seedNow, .int t_keptWall, .int t_keptWeek, .int t_keptBreaths, .int t_keptSeen, .ref t_keptKinds, .ref t_keptDeep, .ref t_keptLeans, .ref t_keptMoss, .ref t_keptSights, .long t_hash])), (t_page, .inl (cA, 36, .inl c_t_page))] s.heap.size = A at hD ⊢
  have hA : ∀ q : Nat, s.heap.size ≤ q → A q := fun q h => by rw [← hAe]; exact Or.inr h
  have hS : va_S A s.heap s.heap [] := va_S.rf
  have hl := lv_entry ([.ref t, .int p1]) (n := 3) (Nat.le_of_ble_eq_true rfl)
  rw [lg_entry_eq]
  generalize (lg_sl ([.ref t, .int p1]) ++ List.replicate (3 - (lg_sl ([.ref t, .int p1])).length) Slot.unset).toArray = ls at hl ⊢
  have hl : lv_has ls 3 [(0, .ref t), (1, .int p1)] := hl
  refine mw_q (P := fun Q => W p l e (headSpec wsX7_isClauseLetter rmX7_isClauseLetter).room s m (([.ref t, .int p1] : List Value).toArray) below meth c s.heap [] 0 0 Q (F0 m 0 ls [])) (fun Q hQ => ?_)
  refine lv_aload_n hx hb dX7_isClauseLetter_0 rfl (lv_at hl 0 rfl) ?_
  refine va_get (D := D) (ci := 7) (v := .ref t_page) (C := RX7) (T := TX7) (N := 29) hx hb hts (fun _ h => List.mem_cons_of_mem _ (List.mem_append_right _ (h))) hown hK hP 0 rfl rfl 0 (by decide) (hts (.fieldLink RX7 7 "MossWallModel" "page" "[I") (List.mem_cons_of_mem _ (List.mem_append_left _ (List.mem_of_getElem? (i := 0) rfl)))) (fun _ h9 => h9) rfl dX7_isClauseLetter_1 ?_
  refine lv_iload_n hx hb dX7_isClauseLetter_4 rfl (lv_at hl 1 rfl) ?_
  obtain ⟨e1, h1, hM⟩ := mw_d1 hM
  refine mw_iald hx hb hK hP 1 0 rfl rfl h1 dX7_isClauseLetter_5 ?_
  refine lv_istore_n (lv' := [(2, .int e1), (0, .ref t), (1, .int p1)]) hx hb dX7_isClauseLetter_6 rfl hl (by decide) rfl (fun ls hl => ?_)
  refine lv_iload_n hx hb dX7_isClauseLetter_7 rfl (lv_at hl 2 rfl) ?_
  refine lv_iconst (v := 4) hx hb dX7_isClauseLetter_8 (by decide) ?_
  refine lv_irem hx hb dX7_isClauseLetter_9 (by decide) ?_
  by_cases q2 : (mw_re p1 4) = 0
  · replace hM := mw_t hM q2
    refine mw_tab (off := 26) (tgt := 36) hx hb q2 dX7_isClauseLetter_10 (by decide) (by decide) (by decide) (by decide) ?_
    refine lv_iload_n hx hb dX7_isClauseLetter_36 rfl (lv_at hl 0 rfl) ?_
    obtain ⟨r3, h3, hM⟩ := mw_d1 hM
    have hPc := hP.sub (ws' := []) [] rfl
    refine vp_callSi (va_Run.run (va_runS (As := [.int e1]) (rest := []) ⟨hx, hb, hml, hown, hts⟩ (kX7_kindBy l D cA e1 r3 h3) (va_cwS 1 hts gX7_isClauseLetter_X7_kindBy rfl rfl rfl (by decide +kernel) ⟨Nat.le_of_ble_eq_true rfl, Nat.le_of_ble_eq_true rfl⟩) ⟨mw_fbR, mw_puR hPc hE⟩ rfl rfl hl.1 rfl (lv_room (Nat.le_of_ble_eq_true rfl)) dX7_isClauseLetter_37 ⟨Nat.zero_le _, Nat.zero_le _⟩)) (fun v_ e_ => ?_)
    subst v_
    refine lv_iconst (v := (-1)) hx hb dX7_isClauseLetter_40 (by decide) ?_
    refine lv_icmp_eq (tgt := 48) hx hb dX7_isClauseLetter_41 (by decide) (fun q4 => ?_) (fun q4 => ?_)
    · replace hM := mw_t hM q4
      refine lv_iconst (v := 0) hx hb dX7_isClauseLetter_48 (by decide) ?_
      obtain ⟨rfl, rfl⟩ := mw_o2 hM
      subst hQ
      exact W.zret hx hb hr rfl (fun t ht hW => ⟨⟨_, (), rfl, ⟨rfl, rfl⟩, by rw [ht]; exact hP, hD⟩, hS.F ht⟩) hS.2.2 dX7_isClauseLetter_49
    · replace hM := mw_f hM q4
      refine lv_iconst (v := 1) hx hb dX7_isClauseLetter_44 (by decide) ?_
      refine lv_goto (tgt := 49) hx hb dX7_isClauseLetter_45 (by decide) ?_
      obtain ⟨rfl, rfl⟩ := mw_o2 hM
      subst hQ
      exact W.zret hx hb hr rfl (fun t ht hW => ⟨⟨_, (), rfl, ⟨rfl, rfl⟩, by rw [ht]; exact hP, hD⟩, hS.F ht⟩) hS.2.2 dX7_isClauseLetter_49
  replace hM := mw_f hM q2
  by_cases q5 : (mw_re p1 4) = 1
  · replace hM := mw_t hM q5
    refine mw_tab (off := 40) (tgt := 50) hx hb q5 dX7_isClauseLetter_10 (by decide) (by decide) (by decide) (by decide) ?_
    refine lv_iload_n hx hb dX7_isClauseLetter_50 rfl (lv_at hl 0 rfl) ?_
    refine lv_i2l (v := Int32.toInt64 e1) hx hb dX7_isClauseLetter_51 rfl ?_
    refine lv_ldc2 (v := 49) hx hb hown (hts (.constantLong RX7 69 (49)) (List.mem_cons_of_mem _ (List.mem_append_left _ (List.mem_of_getElem? (i := 1) rfl)))) dX7_isClauseLetter_52 ?_
    refine lv_ldc2 (v := 57) hx hb hown (hts (.constantLong RX7 71 (57)) (List.mem_cons_of_mem _ (List.mem_append_left _ (List.mem_of_getElem? (i := 2) rfl)))) dX7_isClauseLetter_55 ?_
    obtain ⟨r6, h6, hM⟩ := mw_d1 hM
    have hPc := hP.sub (ws' := []) [] rfl
    refine vp_callSi (va_Run.run (va_runS (As := [.long (Int32.toInt64 e1), .long 49, .long 57]) (rest := []) ⟨hx, hb, hml, hown, hts⟩ (kX7_in l D cA (Int32.toInt64 e1) 49 57 r6 h6) (va_cwS 3 hts gX7_isClauseLetter_X7_in rfl rfl rfl (by decide +kernel) ⟨Nat.le_of_ble_eq_true rfl, Nat.le_of_ble_eq_true rfl⟩) ⟨mw_fbR, mw_puR hPc hE⟩ rfl rfl hl.1 rfl (lv_room (Nat.le_of_ble_eq_true rfl)) dX7_isClauseLetter_58 ⟨Nat.zero_le _, Nat.zero_le _⟩)) (fun v_ e_ => ?_)
    obtain ⟨e_, b6⟩ := e_
    subst v_
    obtain ⟨rfl, rfl⟩ := mw_o2 hM
    subst hQ
    exact W.zret hx hb hr b6 (fun t ht hW => ⟨⟨_, (), rfl, ⟨rfl, b6⟩, by rw [ht]; exact hP, hD⟩, hS.F ht⟩) hS.2.2 dX7_isClauseLetter_61
  replace hM := mw_f hM q5
  by_cases q7 : (mw_re p1 4) = 2
  · replace hM := mw_t hM q7
    refine mw_tab (off := 52) (tgt := 62) hx hb q7 dX7_isClauseLetter_10 (by decide) (by decide) (by decide) (by decide) ?_
    refine lv_iload_n hx hb dX7_isClauseLetter_62 rfl (lv_at hl 0 rfl) ?_
    refine lv_bipush (v := 45) hx hb dX7_isClauseLetter_63 (by decide) ?_
    refine lv_icmp_eq (tgt := 88) hx hb dX7_isClauseLetter_65 (by decide) (fun q8 => ?_) (fun q8 => ?_)
    · replace hM := mw_t hM q8
      refine lv_iconst (v := 1) hx hb dX7_isClauseLetter_88 (by decide) ?_
      refine lv_goto (tgt := 93) hx hb dX7_isClauseLetter_89 (by decide) ?_
      obtain ⟨rfl, rfl⟩ := mw_o2 hM
      subst hQ
      exact W.zret hx hb hr rfl (fun t ht hW => ⟨⟨_, (), rfl, ⟨rfl, rfl⟩, by rw [ht]; exact hP, hD⟩, hS.F ht⟩) hS.2.2 dX7_isClauseLetter_93
    · replace hM := mw_f hM q8
      refine lv_iload_n hx hb dX7_isClauseLetter_68 rfl (lv_at hl 0 rfl) ?_
      refine lv_i2l (v := Int32.toInt64 e1) hx hb dX7_isClauseLetter_69 rfl ?_
      refine lv_ldc2 (v := 48) hx hb hown (hts (.constantLong RX7 73 (48)) (List.mem_cons_of_mem _ (List.mem_append_left _ (List.mem_of_getElem? (i := 3) rfl)))) dX7_isClauseLetter_70 ?_
      refine lv_bipush (v := 48) hx hb dX7_isClauseLetter_73 (by decide) ?_
      refine lv_iload_n hx hb dX7_isClauseLetter_75 rfl (lv_at hl 2 rfl) ?_
      refine lv_iconst (v := 4) hx hb dX7_isClauseLetter_76 (by decide) ?_
      refine lv_idiv hx hb dX7_isClauseLetter_77 (by decide) ?_
      refine lv_iadd hx hb dX7_isClauseLetter_78 ?_
      refine lv_iconst (v := 1) hx hb dX7_isClauseLetter_79 (by decide) ?_
      refine lv_isub hx hb dX7_isClauseLetter_80 ?_
      refine lv_i2l (v := Int32.toInt64 ((48 + (p1 / 4)) - 1)) hx hb dX7_isClauseLetter_81 rfl ?_
      obtain ⟨r9, h9, hM⟩ := mw_d1 hM
      have hPc := hP.sub (ws' := []) [] rfl
      refine vp_callSi (va_Run.run (va_runS (As := [.long (Int32.toInt64 e1), .long 48, .long (Int32.toInt64 ((48 + (p1 / 4)) - 1))]) (rest := []) ⟨hx, hb, hml, hown, hts⟩ (kX7_in l D cA (Int32.toInt64 e1) 48 (Int32.toInt64 ((48 + (p1 / 4)) - 1)) r9 h9) (va_cwS 3 hts gX7_isClauseLetter_X7_in rfl rfl rfl (by decide +kernel) ⟨Nat.le_of_ble_eq_true rfl, Nat.le_of_ble_eq_true rfl⟩) ⟨mw_fbR, mw_puR hPc hE⟩ rfl rfl hl.1 rfl (lv_room (Nat.le_of_ble_eq_true rfl)) dX7_isClauseLetter_82 ⟨Nat.zero_le _, Nat.zero_le _⟩)) (fun v_ e_ => ?_)
      obtain ⟨e_, b9⟩ := e_
      subst v_
      refine lv_if_eq (tgt := 92) hx hb dX7_isClauseLetter_85 (by decide) (fun q10 => ?_) (fun q10 => ?_)
      · replace hM := mw_t hM q10
        refine lv_iconst (v := 0) hx hb dX7_isClauseLetter_92 (by decide) ?_
        obtain ⟨rfl, rfl⟩ := mw_o2 hM
        subst hQ
        exact W.zret hx hb hr rfl (fun t ht hW => ⟨⟨_, (), rfl, ⟨rfl, rfl⟩, by rw [ht]; exact hP, hD⟩, hS.F ht⟩) hS.2.2 dX7_isClauseLetter_93
      · replace hM := mw_f hM q10
        refine lv_iconst (v := 1) hx hb dX7_isClauseLetter_88 (by decide) ?_
        refine lv_goto (tgt := 93) hx hb dX7_isClauseLetter_89 (by decide) ?_
        obtain ⟨rfl, rfl⟩ := mw_o2 hM
        subst hQ
        exact W.zret hx hb hr rfl (fun t ht hW => ⟨⟨_, (), rfl, ⟨rfl, rfl⟩, by rw [ht]; exact hP, hD⟩, hS.F ht⟩) hS.2.2 dX7_isClauseLetter_93
  replace hM := mw_f hM q7
  have u2 : ¬ ((mw_re p1 4) : Int32).toInt = 0 := lv_neT q2 (by decide)
  have u5 : ¬ ((mw_re p1 4) : Int32).toInt = 1 := lv_neT q5 (by decide)
  have u7 : ¬ ((mw_re p1 4) : Int32).toInt = 2 := lv_neT q7 (by decide)
  refine lv_tableOut (x := (mw_re p1 4)) (tgt := 94) hx hb dX7_isClauseLetter_10 (by omega) (by decide) ?_
  refine lv_aload_n hx hb dX7_isClauseLetter_94 rfl (lv_at hl 1 rfl) ?_
  refine lv_iload_n hx hb dX7_isClauseLetter_95 rfl (lv_at hl 0 rfl) ?_
  refine lv_bipush (v := 59) hx hb dX7_isClauseLetter_96 (by decide) ?_
  refine lv_icmp_ne (tgt := 105) hx hb dX7_isClauseLetter_98 (by decide) (fun q11 => ?_) (fun q11 => ?_)
  · replace hM := mw_f hM q11
    refine lv_iconst (v := 0) hx hb dX7_isClauseLetter_105 (by decide) ?_
    refine va_put (D := D) (ci := 7) (v := .int 0) (ty := .int) (C := RX7) (T := TX7) (N := 29) hx hb hts (fun _ h => List.mem_cons_of_mem _ (List.mem_append_right _ (h))) tyX7 tyX7_ok nmX7 hown hK hP hD hS 0 rfl rfl 2 (by decide) (hts (.fieldLink RX7 75 "MossWallModel" "end" "I") (List.mem_cons_of_mem _ (List.mem_append_left _ (List.mem_of_getElem? (i := 4) rfl)))) (fun _ h9 => h9) rfl (by decide +kernel) rfl rfl (Nat.le_of_ble_eq_true rfl) dX7_isClauseLetter_106 (fun H locs hP hD hS => ?_)
    have hP : va_P D vwCl [(t, .inr (7, [.ref t_page, .int t_pageMany, .int 0, .int t_clauses, .int t_rains, .int t_weekNext, .int t_breaths, .int t_wallsRead, .ref t_kinds, .ref t_deep, .ref t_leans, .ref t_moss, .ref t_rain, .ref t_mossThen, .ref t_when, .int t_needsDone, .int t_seenMany, .ref t_sights, .int t_seedNow, .int t_keptWall, .int t_keptWeek, .int t_keptBreaths, .int t_keptSeen, .ref t_keptKinds, .ref t_keptDeep, .ref t_keptLeans, .ref t_keptMoss, .ref t_keptSights, .long t_hash])), (t_page, .inl (cA, 36, .inl c_t_page))] H := hP
    have hD : va_D A [(t, .inr (7, [.ref t_page, .int t_pageMany, .int 0, .int t_clauses, .int t_rains, .int t_weekNext, .int t_breaths, .int t_wallsRead, .ref t_kinds, .ref t_deep, .ref t_leans, .ref t_moss, .ref t_rain, .ref t_mossThen, .ref t_when, .int t_needsDone, .int t_seenMany, .ref t_sights, .int t_seedNow, .int t_keptWall, .int t_keptWeek, .int t_keptBreaths, .int t_keptSeen, .ref t_keptKinds, .ref t_keptDeep, .ref t_keptLeans, .ref t_keptMoss, .ref t_keptSights, .long t_hash])), (t_page, .inl (cA, 36, .inl c_t_page))] := hD
    refine lv_iload_n hx hb dX7_isClauseLetter_109 rfl (lv_at hl 0 rfl) ?_
    refine lv_bipush (v := 59) hx hb dX7_isClauseLetter_110 (by decide) ?_
    refine lv_icmp_eq (tgt := 127) hx hb dX7_isClauseLetter_112 (by decide) (fun q12 => ?_) (fun q12 => ?_)
    · replace hM := mw_t hM q12
      refine lv_iconst (v := 1) hx hb dX7_isClauseLetter_127 (by decide) ?_
      refine lv_goto (tgt := 132) hx hb dX7_isClauseLetter_128 (by decide) ?_
      obtain ⟨rfl, rfl⟩ := mw_o2 hM
      subst hQ
      exact W.zret hx hb hr rfl (fun t ht hW => ⟨⟨_, (), rfl, ⟨rfl, rfl⟩, by rw [ht]; exact hP, hD⟩, hS.F ht⟩) hS.2.2 dX7_isClauseLetter_132
    · replace hM := mw_f hM q12
      refine lv_iload_n hx hb dX7_isClauseLetter_115 rfl (lv_at hl 0 rfl) ?_
      refine lv_bipush (v := 44) hx hb dX7_isClauseLetter_116 (by decide) ?_
      refine lv_icmp_ne (tgt := 131) hx hb dX7_isClauseLetter_118 (by decide) (fun q13 => ?_) (fun q13 => ?_)
      · replace hM := mw_f hM q13
        refine lv_iconst (v := 0) hx hb dX7_isClauseLetter_131 (by decide) ?_
        obtain ⟨rfl, rfl⟩ := mw_o2 hM
        subst hQ
        exact W.zret hx hb hr rfl (fun t ht hW => ⟨⟨_, (), rfl, ⟨rfl, rfl⟩, by rw [ht]; exact hP, hD⟩, hS.F ht⟩) hS.2.2 dX7_isClauseLetter_132
      · replace hM := mw_t hM q13
        refine lv_iload_n hx hb dX7_isClauseLetter_121 rfl (lv_at hl 2 rfl) ?_
        refine lv_bipush (v := 23) hx hb dX7_isClauseLetter_122 (by decide) ?_
        refine lv_icmp_ge (tgt := 131) hx hb dX7_isClauseLetter_124 (by decide) (fun q14 => ?_) (fun q14 => ?_)
        · replace hM := mw_t hM q14
          refine lv_iconst (v := 0) hx hb dX7_isClauseLetter_131 (by decide) ?_
          obtain ⟨rfl, rfl⟩ := mw_o2 hM
          subst hQ
          exact W.zret hx hb hr rfl (fun t ht hW => ⟨⟨_, (), rfl, ⟨rfl, rfl⟩, by rw [ht]; exact hP, hD⟩, hS.F ht⟩) hS.2.2 dX7_isClauseLetter_132
        · replace hM := mw_f hM q14
          refine lv_iconst (v := 1) hx hb dX7_isClauseLetter_127 (by decide) ?_
          refine lv_goto (tgt := 132) hx hb dX7_isClauseLetter_128 (by decide) ?_
          obtain ⟨rfl, rfl⟩ := mw_o2 hM
          subst hQ
          exact W.zret hx hb hr rfl (fun t ht hW => ⟨⟨_, (), rfl, ⟨rfl, rfl⟩, by rw [ht]; exact hP, hD⟩, hS.F ht⟩) hS.2.2 dX7_isClauseLetter_132
  · replace hM := mw_t hM q11
    refine lv_iload_n hx hb dX7_isClauseLetter_101 rfl (lv_at hl 2 rfl) ?_
    refine lv_goto (tgt := 106) hx hb dX7_isClauseLetter_102 (by decide) ?_
    refine va_put (D := D) (ci := 7) (v := .int p1) (ty := .int) (C := RX7) (T := TX7) (N := 29) hx hb hts (fun _ h => List.mem_cons_of_mem _ (List.mem_append_right _ (h))) tyX7 tyX7_ok nmX7 hown hK hP hD hS 0 rfl rfl 2 (by decide) (hts (.fieldLink RX7 75 "MossWallModel" "end" "I") (List.mem_cons_of_mem _ (List.mem_append_left _ (List.mem_of_getElem? (i := 4) rfl)))) (fun _ h9 => h9) rfl (by decide +kernel) rfl rfl (Nat.le_of_ble_eq_true rfl) dX7_isClauseLetter_106 (fun H locs hP hD hS => ?_)
    have hP : va_P D vwCl [(t, .inr (7, [.ref t_page, .int t_pageMany, .int p1, .int t_clauses, .int t_rains, .int t_weekNext, .int t_breaths, .int t_wallsRead, .ref t_kinds, .ref t_deep, .ref t_leans, .ref t_moss, .ref t_rain, .ref t_mossThen, .ref t_when, .int t_needsDone, .int t_seenMany, .ref t_sights, .int t_seedNow, .int t_keptWall, .int t_keptWeek, .int t_keptBreaths, .int t_keptSeen, .ref t_keptKinds, .ref t_keptDeep, .ref t_keptLeans, .ref t_keptMoss, .ref t_keptSights, .long t_hash])), (t_page, .inl (cA, 36, .inl c_t_page))] H := hP
    have hD : va_D A [(t, .inr (7, [.ref t_page, .int t_pageMany, .int p1, .int t_clauses, .int t_rains, .int t_weekNext, .int t_breaths, .int t_wallsRead, .ref t_kinds, .ref t_deep, .ref t_leans, .ref t_moss, .ref t_rain, .ref t_mossThen, .ref t_when, .int t_needsDone, .int t_seenMany, .ref t_sights, .int t_seedNow, .int t_keptWall, .int t_keptWeek, .int t_keptBreaths, .int t_keptSeen, .ref t_keptKinds, .ref t_keptDeep, .ref t_keptLeans, .ref t_keptMoss, .ref t_keptSights, .long t_hash])), (t_page, .inl (cA, 36, .inl c_t_page))] := hD
    refine lv_iload_n hx hb dX7_isClauseLetter_109 rfl (lv_at hl 0 rfl) ?_
    refine lv_bipush (v := 59) hx hb dX7_isClauseLetter_110 (by decide) ?_
    refine lv_icmp_eq (tgt := 127) hx hb dX7_isClauseLetter_112 (by decide) (fun q15 => ?_) (fun q15 => ?_)
    · replace hM := mw_t hM q15
      refine lv_iconst (v := 1) hx hb dX7_isClauseLetter_127 (by decide) ?_
      refine lv_goto (tgt := 132) hx hb dX7_isClauseLetter_128 (by decide) ?_
      obtain ⟨rfl, rfl⟩ := mw_o2 hM
      subst hQ
      exact W.zret hx hb hr rfl (fun t ht hW => ⟨⟨_, (), rfl, ⟨rfl, rfl⟩, by rw [ht]; exact hP, hD⟩, hS.F ht⟩) hS.2.2 dX7_isClauseLetter_132
    · replace hM := mw_f hM q15
      refine lv_iload_n hx hb dX7_isClauseLetter_115 rfl (lv_at hl 0 rfl) ?_
      refine lv_bipush (v := 44) hx hb dX7_isClauseLetter_116 (by decide) ?_
      refine lv_icmp_ne (tgt := 131) hx hb dX7_isClauseLetter_118 (by decide) (fun q16 => ?_) (fun q16 => ?_)
      · replace hM := mw_f hM q16
        refine lv_iconst (v := 0) hx hb dX7_isClauseLetter_131 (by decide) ?_
        obtain ⟨rfl, rfl⟩ := mw_o2 hM
        subst hQ
        exact W.zret hx hb hr rfl (fun t ht hW => ⟨⟨_, (), rfl, ⟨rfl, rfl⟩, by rw [ht]; exact hP, hD⟩, hS.F ht⟩) hS.2.2 dX7_isClauseLetter_132
      · replace hM := mw_t hM q16
        refine lv_iload_n hx hb dX7_isClauseLetter_121 rfl (lv_at hl 2 rfl) ?_
        refine lv_bipush (v := 23) hx hb dX7_isClauseLetter_122 (by decide) ?_
        refine lv_icmp_ge (tgt := 131) hx hb dX7_isClauseLetter_124 (by decide) (fun q17 => ?_) (fun q17 => ?_)
        · replace hM := mw_t hM q17
          refine lv_iconst (v := 0) hx hb dX7_isClauseLetter_131 (by decide) ?_
          obtain ⟨rfl, rfl⟩ := mw_o2 hM
          subst hQ
          exact W.zret hx hb hr rfl (fun t ht hW => ⟨⟨_, (), rfl, ⟨rfl, rfl⟩, by rw [ht]; exact hP, hD⟩, hS.F ht⟩) hS.2.2 dX7_isClauseLetter_132
        · replace hM := mw_f hM q17
          refine lv_iconst (v := 1) hx hb dX7_isClauseLetter_127 (by decide) ?_
          refine lv_goto (tgt := 132) hx hb dX7_isClauseLetter_128 (by decide) ?_
          obtain ⟨rfl, rfl⟩ := mw_o2 hM
          subst hQ
          exact W.zret hx hb hr rfl (fun t ht hW => ⟨⟨_, (), rfl, ⟨rfl, rfl⟩, by rw [ht]; exact hP, hD⟩, hS.F ht⟩) hS.2.2 dX7_isClauseLetter_132
def mX7_faultOf_L1 (t_pageMany : Int32) (c_t_page : Nat → Int32) (k1_69 : Int32 → Int32 → Option (Int32 × Int32)) : Nat → Int32 → Int32 → Option (Int32 × Int32)
  | 0, _, _ => none
  | n1 + 1, x1_1, y1_t_end =>
    (if t_pageMany ≤ x1_1 then k1_69 x1_1 y1_t_end else (if y1_t_end = 0 then mw_b2 (mX7_isClauseLetter y1_t_end c_t_page x1_1) fun r7 u7_t_end => (if r7 = 0 then k1_69 x1_1 u7_t_end else mX7_faultOf_L1 t_pageMany c_t_page k1_69 n1 (x1_1 + 1) u7_t_end) else (if (y1_t_end + 8) < x1_1 then k1_69 x1_1 y1_t_end else (mw_rd c_t_page 36 x1_1).bind fun e4 => (mX7_in (Int32.toInt64 e4) 48 51).bind fun r5 => (if r5 = 0 then k1_69 x1_1 y1_t_end else mX7_faultOf_L1 t_pageMany c_t_page k1_69 n1 (x1_1 + 1) y1_t_end))))
def mX7_faultOf (t_pageMany : Int32) (t_end : Int32) (c_t_page : Nat → Int32) : Option (Int32 × Int32) :=
  mX7_faultOf_L1 t_pageMany c_t_page (fun (x1_1 : Int32) (y1_t_end : Int32) => some (x1_1, y1_t_end)) 300 0 0
abbrev rmX7_faultOf : Room := ({ frames := 2, cells := 0, slots := 0, locals := 47 } : Room)
set_option maxHeartbeats 4000000 in
set_option maxRecDepth 100000 in
theorem kX7_faultOf (l : Launch) (D : va_G) (cA : ClassId) (t t_page t_kinds t_deep t_leans t_moss t_rain t_mossThen t_when t_sights t_keptKinds t_keptDeep t_keptLeans t_keptMoss t_keptSights : Nat) (sz : Nat) (t_pageMany : Int32) (t_end : Int32) (t_clauses : Int32) (t_rains : Int32) (t_weekNext : Int32) (t_breaths : Int32) (t_wallsRead : Int32) (t_needsDone : Int32) (t_seenMany : Int32) (t_seedNow : Int32) (t_keptWall : Int32) (t_keptWeek : Int32) (t_keptBreaths : Int32) (t_keptSeen : Int32) (t_hash : Int64) (c_t_page : Nat → Int32) (r : Int32) (o_t_end : Int32) (hM : mX7_faultOf t_pageMany t_end c_t_page = some (r, o_t_end)) : Met l yX7_faultOf wsX7_faultOf rmX7_faultOf (va_Pc [.ref t] (fun U => U.heap.size = sz ∧ va_P D vwCl [(t, .inr (7, [.ref t_page, .int t_pageMany, .int t_end, .int t_clauses, .int t_rains, .int t_weekNext, .int t_breaths, .int t_wallsRead, .ref t_kinds, .ref t_deep, .ref t_leans, .ref t_moss, .ref t_rain, .ref t_mossThen, .ref t_when, .int t_needsDone, .int t_seenMany, .ref t_sights, .int t_seedNow, .int t_keptWall, .int t_keptWeek, .int t_keptBreaths, .int t_keptSeen, .ref t_keptKinds, .ref t_keptDeep, .ref t_keptLeans, .ref t_keptMoss, .ref t_keptSights, .long t_hash])), (t_page, .inl (cA, 36, .inl c_t_page))] U.heap ∧ mw_ev D cA U ∧ va_D (fun _ => True) [(t, .inr (7, [.ref t_page, .int t_pageMany, .int t_end, .int t_clauses, .int t_rains, .int t_weekNext, .int t_breaths, .int t_wallsRead, .ref t_kinds, .ref t_deep, .ref t_leans, .ref t_moss, .ref t_rain, .ref t_mossThen, .ref t_when, .int t_needsDone, .int t_seenMany, .ref t_sights, .int t_seedNow, .int t_keptWall, .int t_keptWeek, .int t_keptBreaths, .int t_keptSeen, .ref t_keptKinds, .ref t_keptDeep, .ref t_keptLeans, .ref t_keptMoss, .ref t_keptSights, .long t_hash])), (t_page, .inl (cA, 36, .inl c_t_page))])) (va_Qi (fun (v : Int32) (_ : Unit) => v = r) (fun (_ : Unit) w_ => va_P D vwCl [(t, .inr (7, [.ref t_page, .int t_pageMany, .int o_t_end, .int t_clauses, .int t_rains, .int t_weekNext, .int t_breaths, .int t_wallsRead, .ref t_kinds, .ref t_deep, .ref t_leans, .ref t_moss, .ref t_rain, .ref t_mossThen, .ref t_when, .int t_needsDone, .int t_seenMany, .ref t_sights, .int t_seedNow, .int t_keptWall, .int t_keptWeek, .int t_keptBreaths, .int t_keptSeen, .ref t_keptKinds, .ref t_keptDeep, .ref t_keptLeans, .ref t_keptMoss, .ref t_keptSights, .long t_hash])), (t_page, .inl (cA, 36, .inl c_t_page))] w_.heap ∧ va_D (va_A [(t, .inr (7, [.ref t_page, .int t_pageMany, .int t_end, .int t_clauses, .int t_rains, .int t_weekNext, .int t_breaths, .int t_wallsRead, .ref t_kinds, .ref t_deep, .ref t_leans, .ref t_moss, .ref t_rain, .ref t_mossThen, .ref t_when, .int t_needsDone, .int t_seenMany, .ref t_sights, .int t_seedNow, .int t_keptWall, .int t_keptWeek, .int t_keptBreaths, .int t_keptSeen, .ref t_keptKinds, .ref t_keptDeep, .ref t_keptLeans, .ref t_keptMoss, .ref t_keptSights, .long t_hash])), (t_page, .inl (cA, 36, .inl c_t_page))] sz) [(t, .inr (7, [.ref t_page, .int t_pageMany, .int o_t_end, .int t_clauses, .int t_rains, .int t_weekNext, .int t_breaths, .int t_wallsRead, .ref t_kinds, .ref t_deep, .ref t_leans, .ref t_moss, .ref t_rain, .ref t_mossThen, .ref t_when, .int t_needsDone, .int t_seenMany, .ref t_sights, .int t_seedNow, .int t_keptWall, .int t_keptWeek, .int t_keptBreaths, .int t_keptSeen, .ref t_keptKinds, .ref t_keptDeep, .ref t_keptLeans, .ref t_keptMoss, .ref t_keptSights, .long t_hash])), (t_page, .inl (cA, 36, .inl c_t_page))]) (va_A [(t, .inr (7, [.ref t_page, .int t_pageMany, .int t_end, .int t_clauses, .int t_rains, .int t_weekNext, .int t_breaths, .int t_wallsRead, .ref t_kinds, .ref t_deep, .ref t_leans, .ref t_moss, .ref t_rain, .ref t_mossThen, .ref t_when, .int t_needsDone, .int t_seenMany, .ref t_sights, .int t_seedNow, .int t_keptWall, .int t_keptWeek, .int t_keptBreaths, .int t_keptSeen, .ref t_keptKinds, .ref t_keptDeep, .ref t_keptLeans, .ref t_keptMoss, .ref t_keptSights, .long t_hash])), (t_page, .inl (cA, 36, .inl c_t_page))] sz)) 0 0 (va_A [(t, .inr (7, [.ref t_page, .int t_pageMany, .int t_end, .int t_clauses, .int t_rains, .int t_weekNext, .int t_breaths, .int t_wallsRead, .ref t_kinds, .ref t_deep, .ref t_leans, .ref t_moss, .ref t_rain, .ref t_mossThen, .ref t_when, .int t_needsDone, .int t_seenMany, .ref t_sights, .int t_seedNow, .int t_keptWall, .int t_keptWeek, .int t_keptBreaths, .int t_keptSeen, .ref t_keptKinds, .ref t_keptDeep, .ref t_keptLeans, .ref t_keptMoss, .ref t_keptSights, .long t_hash])), (t_page, .inl (cA, 36, .inl c_t_page))] sz) := by
  unfold mX7_faultOf at hM
  refine Met.ofW (cc := cX7_faultOf) (maxL := 2) (ret := (some .int)) (by decide) rfl ?_
  intro p e s m args below meth c s₁ B hml hv
  obtain ⟨rfl, hsz, hP, hE, hD0⟩ := hv
  have hx := B.exec
  have hb := B.bytes
  have hr := B.returns
  have hts := atoms_spec (ws := wsX7_faultOf) B.pre
  have hown : s.vm.findClass RX7 = some m.cls := findClass_of_methodNamed B.named
  have hlocks := B.notSynchronized
  have hK := hE.1
  subst hsz
  have hD := hD0.self (sz := s.heap.size)
  generalize hAe : va_A [(t, .inr (7, [.ref t_page, .int t_pageMany, .int t_end, .int t_clauses, .int t_rains, .int t_weekNext, .int t_breaths, .int t_wallsRead, .ref t_kinds, .ref t_deep, .ref t_leans, .ref t_moss, .ref t_rain, .ref t_mossThen, .ref t_when, .int t_needsDone, .int t_seenMany, .ref t_sights, .int t_seedNow, .int t_keptWall, .int t_keptWeek, .int t_keptBreaths, .int t_keptSeen, .ref t_keptKinds, .ref t_keptDeep, .ref t_keptLeans, .ref t_keptMoss, .ref t_keptSights, .long t_hash])), (t_page, .inl (cA, 36, .inl c_t_page))] s.heap.size = A at hD ⊢
  have hA : ∀ q : Nat, s.heap.size ≤ q → A q := fun q h => by rw [← hAe]; exact Or.inr h
  have hS : va_S A s.heap s.heap [] := va_S.rf
  have hl := lv_entry ([.ref t]) (n := 2) (Nat.le_of_ble_eq_true rfl)
  rw [lg_entry_eq]
  generalize (lg_sl ([.ref t]) ++ List.replicate (2 - (lg_sl ([.ref t])).length) Slot.unset).toArray = ls at hl ⊢
  have hl : lv_has ls 2 [(0, .ref t)] := hl
  refine mw_q (P := fun Q => W p l e (headSpec wsX7_faultOf rmX7_faultOf).room s m (([.ref t] : List Value).toArray) below meth c s.heap [] 0 0 Q (F0 m 0 ls [])) (fun Q hQ => ?_)
  refine lv_aload_n hx hb dX7_faultOf_0 rfl (lv_at hl 0 rfl) ?_
  refine lv_iconst (v := 0) hx hb dX7_faultOf_1 (by decide) ?_
  refine va_put (D := D) (ci := 7) (v := .int 0) (ty := .int) (C := RX7) (T := TX7) (N := 29) hx hb hts (fun _ h => List.mem_cons_of_mem _ (List.mem_append_right _ (h))) tyX7 tyX7_ok nmX7 hown hK hP hD hS 0 rfl rfl 2 (by decide) (hts (.fieldLink RX7 75 "MossWallModel" "end" "I") (List.mem_cons_of_mem _ (List.mem_append_left _ (List.mem_of_getElem? (i := 0) rfl)))) (fun _ h9 => h9) rfl (by decide +kernel) rfl rfl (Nat.le_of_ble_eq_true rfl) dX7_faultOf_2 (fun H locs hP hD hS => ?_)
  have hP : va_P D vwCl [(t, .inr (7, [.ref t_page, .int t_pageMany, .int 0, .int t_clauses, .int t_rains, .int t_weekNext, .int t_breaths, .int t_wallsRead, .ref t_kinds, .ref t_deep, .ref t_leans, .ref t_moss, .ref t_rain, .ref t_mossThen, .ref t_when, .int t_needsDone, .int t_seenMany, .ref t_sights, .int t_seedNow, .int t_keptWall, .int t_keptWeek, .int t_keptBreaths, .int t_keptSeen, .ref t_keptKinds, .ref t_keptDeep, .ref t_keptLeans, .ref t_keptMoss, .ref t_keptSights, .long t_hash])), (t_page, .inl (cA, 36, .inl c_t_page))] H := hP
  have hD : va_D A [(t, .inr (7, [.ref t_page, .int t_pageMany, .int 0, .int t_clauses, .int t_rains, .int t_weekNext, .int t_breaths, .int t_wallsRead, .ref t_kinds, .ref t_deep, .ref t_leans, .ref t_moss, .ref t_rain, .ref t_mossThen, .ref t_when, .int t_needsDone, .int t_seenMany, .ref t_sights, .int t_seedNow, .int t_keptWall, .int t_keptWeek, .int t_keptBreaths, .int t_keptSeen, .ref t_keptKinds, .ref t_keptDeep, .ref t_keptLeans, .ref t_keptMoss, .ref t_keptSights, .long t_hash])), (t_page, .inl (cA, 36, .inl c_t_page))] := hD
  refine lv_iconst (v := 0) hx hb dX7_faultOf_5 (by decide) ?_
  refine lv_istore_n (lv' := [(1, .int 0), (0, .ref t)]) hx hb dX7_faultOf_6 rfl hl (by decide) rfl (fun ls hl => ?_)
  obtain ⟨k1_69, jk1_69⟩ : ∃ k : Int32 → Int32 → Option (Int32 × Int32), k = fun (x1_1 : Int32) (y1_t_end : Int32) => some (x1_1, y1_t_end) := ⟨_, rfl⟩
  have Ek1_69 : ∀ (x1_1 : Int32) (y1_t_end : Int32) (H : Heap) (locs : List Loc) (ls : Array Slot), va_P D vwCl [(t, .inr (7, [.ref t_page, .int t_pageMany, .int y1_t_end, .int t_clauses, .int t_rains, .int t_weekNext, .int t_breaths, .int t_wallsRead, .ref t_kinds, .ref t_deep, .ref t_leans, .ref t_moss, .ref t_rain, .ref t_mossThen, .ref t_when, .int t_needsDone, .int t_seenMany, .ref t_sights, .int t_seedNow, .int t_keptWall, .int t_keptWeek, .int t_keptBreaths, .int t_keptSeen, .ref t_keptKinds, .ref t_keptDeep, .ref t_keptLeans, .ref t_keptMoss, .ref t_keptSights, .long t_hash])), (t_page, .inl (cA, 36, .inl c_t_page))] H → va_D A [(t, .inr (7, [.ref t_page, .int t_pageMany, .int y1_t_end, .int t_clauses, .int t_rains, .int t_weekNext, .int t_breaths, .int t_wallsRead, .ref t_kinds, .ref t_deep, .ref t_leans, .ref t_moss, .ref t_rain, .ref t_mossThen, .ref t_when, .int t_needsDone, .int t_seenMany, .ref t_sights, .int t_seedNow, .int t_keptWall, .int t_keptWeek, .int t_keptBreaths, .int t_keptSeen, .ref t_keptKinds, .ref t_keptDeep, .ref t_keptLeans, .ref t_keptMoss, .ref t_keptSights, .long t_hash])), (t_page, .inl (cA, 36, .inl c_t_page))] → va_S A s.heap H locs → lv_has ls 2 [(1, .int x1_1), (0, .ref t)] → k1_69 x1_1 y1_t_end = some (r, o_t_end) → W p l e (headSpec wsX7_faultOf rmX7_faultOf).room s m (([.ref t] : List Value).toArray) below meth c H locs 0 0 Q (F0 m 69 ls []) := by
      intro x1_1 y1_t_end H locs ls hP hD hS hl hM
      rw [jk1_69] at hM
      refine lv_iload_n hx hb dX7_faultOf_69 rfl (lv_at hl 0 rfl) ?_
      obtain ⟨rfl, rfl⟩ := mw_o2 hM
      subst hQ
      exact W.iret hx hb hr (fun t ht hW => ⟨⟨_, (), rfl, rfl, by rw [ht]; exact hP, hD⟩, hS.F ht⟩) hS.2.2 dX7_faultOf_70
  have L1 : ∀ (n1 : Nat) (x1_1 : Int32) (y1_t_end : Int32) (H : Heap) (locs : List Loc) (ls : Array Slot), va_P D vwCl [(t, .inr (7, [.ref t_page, .int t_pageMany, .int y1_t_end, .int t_clauses, .int t_rains, .int t_weekNext, .int t_breaths, .int t_wallsRead, .ref t_kinds, .ref t_deep, .ref t_leans, .ref t_moss, .ref t_rain, .ref t_mossThen, .ref t_when, .int t_needsDone, .int t_seenMany, .ref t_sights, .int t_seedNow, .int t_keptWall, .int t_keptWeek, .int t_keptBreaths, .int t_keptSeen, .ref t_keptKinds, .ref t_keptDeep, .ref t_keptLeans, .ref t_keptMoss, .ref t_keptSights, .long t_hash])), (t_page, .inl (cA, 36, .inl c_t_page))] H → va_D A [(t, .inr (7, [.ref t_page, .int t_pageMany, .int y1_t_end, .int t_clauses, .int t_rains, .int t_weekNext, .int t_breaths, .int t_wallsRead, .ref t_kinds, .ref t_deep, .ref t_leans, .ref t_moss, .ref t_rain, .ref t_mossThen, .ref t_when, .int t_needsDone, .int t_seenMany, .ref t_sights, .int t_seedNow, .int t_keptWall, .int t_keptWeek, .int t_keptBreaths, .int t_keptSeen, .ref t_keptKinds, .ref t_keptDeep, .ref t_keptLeans, .ref t_keptMoss, .ref t_keptSights, .long t_hash])), (t_page, .inl (cA, 36, .inl c_t_page))] → va_S A s.heap H locs → lv_has ls 2 [(1, .int x1_1), (0, .ref t)] → mX7_faultOf_L1 t_pageMany c_t_page k1_69 n1 x1_1 y1_t_end = some (r, o_t_end) → W p l e (headSpec wsX7_faultOf rmX7_faultOf).room s m (([.ref t] : List Value).toArray) below meth c H locs 0 0 Q (F0 m 7 ls []) := by
      intro n1
      induction n1 with
      | zero =>
        intro x1_1 y1_t_end H locs ls hP hD hS hl hM
        rw [mX7_faultOf_L1] at hM
        exact mw_none hM
      | succ n1 ih1 =>
        intro x1_1 y1_t_end H locs ls hP hD hS hl hM
        rw [mX7_faultOf_L1] at hM
        refine lv_iload_n hx hb dX7_faultOf_7 rfl (lv_at hl 0 rfl) ?_
        refine lv_aload_n hx hb dX7_faultOf_8 rfl (lv_at hl 1 rfl) ?_
        refine va_get (D := D) (ci := 7) (v := .int t_pageMany) (C := RX7) (T := TX7) (N := 29) hx hb hts (fun _ h => List.mem_cons_of_mem _ (List.mem_append_right _ (h))) hown hK hP 0 rfl rfl 1 (by decide) (hts (.fieldLink RX7 62 "MossWallModel" "pageMany" "I") (List.mem_cons_of_mem _ (List.mem_append_left _ (List.mem_of_getElem? (i := 1) rfl)))) (fun _ h9 => h9) rfl dX7_faultOf_9 ?_
        refine lv_icmp_ge (tgt := 69) hx hb dX7_faultOf_12 (by decide) (fun q1 => ?_) (fun q1 => ?_)
        · replace hM := mw_t hM q1
          exact Ek1_69 x1_1 y1_t_end _ _ _ hP hD hS (lv_sub hl [0, 1] rfl) hM
        · replace hM := mw_f hM q1
          refine lv_aload_n hx hb dX7_faultOf_15 rfl (lv_at hl 1 rfl) ?_
          refine va_get (D := D) (ci := 7) (v := .int y1_t_end) (C := RX7) (T := TX7) (N := 29) hx hb hts (fun _ h => List.mem_cons_of_mem _ (List.mem_append_right _ (h))) hown hK hP 0 rfl rfl 2 (by decide) (hts (.fieldLink RX7 75 "MossWallModel" "end" "I") (List.mem_cons_of_mem _ (List.mem_append_left _ (List.mem_of_getElem? (i := 0) rfl)))) (fun _ h9 => h9) rfl dX7_faultOf_16 ?_
          refine lv_if_ne (tgt := 33) hx hb dX7_faultOf_19 (by decide) (fun q2 => ?_) (fun q2 => ?_)
          · replace hM := mw_f hM q2
            refine lv_iload_n hx hb dX7_faultOf_33 rfl (lv_at hl 0 rfl) ?_
            refine lv_aload_n hx hb dX7_faultOf_34 rfl (lv_at hl 1 rfl) ?_
            refine va_get (D := D) (ci := 7) (v := .int y1_t_end) (C := RX7) (T := TX7) (N := 29) hx hb hts (fun _ h => List.mem_cons_of_mem _ (List.mem_append_right _ (h))) hown hK hP 0 rfl rfl 2 (by decide) (hts (.fieldLink RX7 75 "MossWallModel" "end" "I") (List.mem_cons_of_mem _ (List.mem_append_left _ (List.mem_of_getElem? (i := 0) rfl)))) (fun _ h9 => h9) rfl dX7_faultOf_35 ?_
            refine lv_bipush (v := 8) hx hb dX7_faultOf_38 (by decide) ?_
            refine lv_iadd hx hb dX7_faultOf_40 ?_
            refine lv_icmp_gt (tgt := 69) hx hb dX7_faultOf_41 (by decide) (fun q3 => ?_) (fun q3 => ?_)
            · replace hM := mw_t hM q3
              exact Ek1_69 x1_1 y1_t_end _ _ _ hP hD hS (lv_sub hl [0, 1] rfl) hM
            · replace hM := mw_f hM q3
              refine lv_aload_n hx hb dX7_faultOf_44 rfl (lv_at hl 1 rfl) ?_
              refine va_get (D := D) (ci := 7) (v := .ref t_page) (C := RX7) (T := TX7) (N := 29) hx hb hts (fun _ h => List.mem_cons_of_mem _ (List.mem_append_right _ (h))) hown hK hP 0 rfl rfl 0 (by decide) (hts (.fieldLink RX7 7 "MossWallModel" "page" "[I") (List.mem_cons_of_mem _ (List.mem_append_left _ (List.mem_of_getElem? (i := 2) rfl)))) (fun _ h9 => h9) rfl dX7_faultOf_45 ?_
              refine lv_iload_n hx hb dX7_faultOf_48 rfl (lv_at hl 0 rfl) ?_
              obtain ⟨e4, h4, hM⟩ := mw_d1 hM
              refine mw_iald hx hb hK hP 1 0 rfl rfl h4 dX7_faultOf_49 ?_
              refine lv_i2l (v := Int32.toInt64 e4) hx hb dX7_faultOf_50 rfl ?_
              refine lv_ldc2 (v := 48) hx hb hown (hts (.constantLong RX7 73 (48)) (List.mem_cons_of_mem _ (List.mem_append_left _ (List.mem_of_getElem? (i := 3) rfl)))) dX7_faultOf_51 ?_
              refine lv_ldc2 (v := 51) hx hb hown (hts (.constantLong RX7 82 (51)) (List.mem_cons_of_mem _ (List.mem_append_left _ (List.mem_of_getElem? (i := 4) rfl)))) dX7_faultOf_54 ?_
              obtain ⟨r5, h5, hM⟩ := mw_d1 hM
              have hPc := hP.sub (ws' := []) [] rfl
              refine vp_callSi (va_Run.run (va_runS (As := [.long (Int32.toInt64 e4), .long 48, .long 51]) (rest := []) ⟨hx, hb, hml, hown, hts⟩ (kX7_in l D cA (Int32.toInt64 e4) 48 51 r5 h5) (va_cwS 3 hts gX7_faultOf_X7_in rfl rfl rfl (by decide +kernel) ⟨Nat.le_of_ble_eq_true rfl, Nat.le_of_ble_eq_true rfl⟩) ⟨mw_fbR, mw_puR hPc hE⟩ rfl rfl hl.1 rfl (lv_room (Nat.le_of_ble_eq_true rfl)) dX7_faultOf_57 ⟨Nat.zero_le _, Nat.zero_le _⟩)) (fun v_ e_ => ?_)
              obtain ⟨e_, b5⟩ := e_
              subst v_
              refine lv_if_eq (tgt := 69) hx hb dX7_faultOf_60 (by decide) (fun q6 => ?_) (fun q6 => ?_)
              · replace hM := mw_t hM q6
                exact Ek1_69 x1_1 y1_t_end _ _ _ hP hD hS (lv_sub hl [0, 1] rfl) hM
              · replace hM := mw_f hM q6
                refine lv_iinc (v := x1_1 + 1) (lv' := [(1, .int (x1_1 + 1)), (0, .ref t)]) hx hb dX7_faultOf_63 hl (k := 0) rfl (by first | rfl | decide) (by decide) rfl (fun ls hl => ?_)
                refine lv_goto (tgt := 7) hx hb dX7_faultOf_66 (by decide) ?_
                exact ih1 (x1_1 + 1) y1_t_end _ _ _ hP hD hS (lv_sub hl [0, 1] rfl) hM
          · replace hM := mw_t hM q2
            refine lv_aload_n hx hb dX7_faultOf_22 rfl (lv_at hl 1 rfl) ?_
            refine lv_iload_n hx hb dX7_faultOf_23 rfl (lv_at hl 0 rfl) ?_
            obtain ⟨r7, u7_t_end, h7, hM⟩ := mw_d2 hM
            have hPc := hP.sub (ws' := [(t, .inr (7, [.ref t_page, .int t_pageMany, .int y1_t_end, .int t_clauses, .int t_rains, .int t_weekNext, .int t_breaths, .int t_wallsRead, .ref t_kinds, .ref t_deep, .ref t_leans, .ref t_moss, .ref t_rain, .ref t_mossThen, .ref t_when, .int t_needsDone, .int t_seenMany, .ref t_sights, .int t_seedNow, .int t_keptWall, .int t_keptWeek, .int t_keptBreaths, .int t_keptSeen, .ref t_keptKinds, .ref t_keptDeep, .ref t_keptLeans, .ref t_keptMoss, .ref t_keptSights, .long t_hash])), (t_page, .inl (cA, 36, .inl c_t_page))]) [0, 1] rfl
            have hDc := hD.sub (ws' := [(t, .inr (7, [.ref t_page, .int t_pageMany, .int y1_t_end, .int t_clauses, .int t_rains, .int t_weekNext, .int t_breaths, .int t_wallsRead, .ref t_kinds, .ref t_deep, .ref t_leans, .ref t_moss, .ref t_rain, .ref t_mossThen, .ref t_when, .int t_needsDone, .int t_seenMany, .ref t_sights, .int t_seedNow, .int t_keptWall, .int t_keptWeek, .int t_keptBreaths, .int t_keptSeen, .ref t_keptKinds, .ref t_keptDeep, .ref t_keptLeans, .ref t_keptMoss, .ref t_keptSights, .long t_hash])), (t_page, .inl (cA, 36, .inl c_t_page))]) [0, 1] (by decide) rfl
            have hFc := va_free (wc := [(t, .inr (7, [.ref t_page, .int t_pageMany, .int y1_t_end, .int t_clauses, .int t_rains, .int t_weekNext, .int t_breaths, .int t_wallsRead, .ref t_kinds, .ref t_deep, .ref t_leans, .ref t_moss, .ref t_rain, .ref t_mossThen, .ref t_when, .int t_needsDone, .int t_seenMany, .ref t_sights, .int t_seedNow, .int t_keptWall, .int t_keptWeek, .int t_keptBreaths, .int t_keptSeen, .ref t_keptKinds, .ref t_keptDeep, .ref t_keptLeans, .ref t_keptMoss, .ref t_keptSights, .long t_hash])), (t_page, .inl (cA, 36, .inl c_t_page))]) hD hS hA [0, 1] rfl
            refine va_calli (va_runV (As := [.int x1_1]) (rest := []) ⟨hx, hb, hml, hown, hts⟩ (kX7_isClauseLetter l D cA t t_page t_kinds t_deep t_leans t_moss t_rain t_mossThen t_when t_sights t_keptKinds t_keptDeep t_keptLeans t_keptMoss t_keptSights _ t_pageMany y1_t_end t_clauses t_rains t_weekNext t_breaths t_wallsRead t_needsDone t_seenMany t_seedNow t_keptWall t_keptWeek t_keptBreaths t_keptSeen t_hash c_t_page x1_1 r7 u7_t_end h7) (cwV 1 hts gX7_faultOf_X7_isClauseLetter rfl rfl rfl (by decide +kernel) ⟨Nat.le_of_ble_eq_true rfl, Nat.le_of_ble_eq_true rfl⟩) ⟨mw_fbW, va_recv hK hP (ci := 7) (q0 := 0) rfl rfl, mw_puW hPc hE hDc⟩ rfl rfl hl.1 rfl (lv_room (Nat.le_of_ble_eq_true rfl)) dX7_faultOf_24 ⟨Nat.zero_le _, Nat.zero_le _⟩) hS (fun q _ h => hFc q h) hFc (fun v_ _ t_ H locs ht_ _ e_ hB_ _ hk_ hS => ?_)
            obtain ⟨e_, b7⟩ := e_
            subst v_
            obtain ⟨hP1, hD1⟩ := hB_
            rw [ht_] at hP1
            obtain ⟨hP, hD⟩ := va_join (wr := []) (w1 := [(t, .inr (7, [.ref t_page, .int t_pageMany, .int u7_t_end, .int t_clauses, .int t_rains, .int t_weekNext, .int t_breaths, .int t_wallsRead, .ref t_kinds, .ref t_deep, .ref t_leans, .ref t_moss, .ref t_rain, .ref t_mossThen, .ref t_when, .int t_needsDone, .int t_seenMany, .ref t_sights, .int t_seedNow, .int t_keptWall, .int t_keptWeek, .int t_keptBreaths, .int t_keptSeen, .ref t_keptKinds, .ref t_keptDeep, .ref t_keptLeans, .ref t_keptMoss, .ref t_keptSights, .long t_hash])), (t_page, .inl (cA, 36, .inl c_t_page))]) hP hD [0, 1] [] rfl rfl (by decide) (by decide) hk_ hFc hP1 hD1
            have hP : va_P D vwCl [(t, .inr (7, [.ref t_page, .int t_pageMany, .int u7_t_end, .int t_clauses, .int t_rains, .int t_weekNext, .int t_breaths, .int t_wallsRead, .ref t_kinds, .ref t_deep, .ref t_leans, .ref t_moss, .ref t_rain, .ref t_mossThen, .ref t_when, .int t_needsDone, .int t_seenMany, .ref t_sights, .int t_seedNow, .int t_keptWall, .int t_keptWeek, .int t_keptBreaths, .int t_keptSeen, .ref t_keptKinds, .ref t_keptDeep, .ref t_keptLeans, .ref t_keptMoss, .ref t_keptSights, .long t_hash])), (t_page, .inl (cA, 36, .inl c_t_page))] H := hP
            have hD : va_D A [(t, .inr (7, [.ref t_page, .int t_pageMany, .int u7_t_end, .int t_clauses, .int t_rains, .int t_weekNext, .int t_breaths, .int t_wallsRead, .ref t_kinds, .ref t_deep, .ref t_leans, .ref t_moss, .ref t_rain, .ref t_mossThen, .ref t_when, .int t_needsDone, .int t_seenMany, .ref t_sights, .int t_seedNow, .int t_keptWall, .int t_keptWeek, .int t_keptBreaths, .int t_keptSeen, .ref t_keptKinds, .ref t_keptDeep, .ref t_keptLeans, .ref t_keptMoss, .ref t_keptSights, .long t_hash])), (t_page, .inl (cA, 36, .inl c_t_page))] := hD
            refine lv_if_eq (tgt := 69) hx hb dX7_faultOf_27 (by decide) (fun q8 => ?_) (fun q8 => ?_)
            · replace hM := mw_t hM q8
              exact Ek1_69 x1_1 u7_t_end _ _ _ hP hD hS (lv_sub hl [0, 1] rfl) hM
            · replace hM := mw_f hM q8
              refine lv_goto (tgt := 63) hx hb dX7_faultOf_30 (by decide) ?_
              refine lv_iinc (v := x1_1 + 1) (lv' := [(1, .int (x1_1 + 1)), (0, .ref t)]) hx hb dX7_faultOf_63 hl (k := 0) rfl (by first | rfl | decide) (by decide) rfl (fun ls hl => ?_)
              refine lv_goto (tgt := 7) hx hb dX7_faultOf_66 (by decide) ?_
              exact ih1 (x1_1 + 1) u7_t_end _ _ _ hP hD hS (lv_sub hl [0, 1] rfl) hM
  exact L1 300 0 0 _ _ _ hP hD hS hl (by rw [jk1_69]; exact hM)
def mX7_fault (t_pageMany : Int32) (t_end : Int32) (c_t_page : Nat → Int32) : Option (Int32 × Int32) :=
  mw_b2 (mX7_faultOf t_pageMany t_end c_t_page) fun r1 u1_t_end => some (r1, u1_t_end)
abbrev rmX7_fault : Room := ({ frames := 3, cells := 0, slots := 0, locals := 68 } : Room)
set_option maxHeartbeats 4000000 in
set_option maxRecDepth 100000 in
theorem kX7_fault (l : Launch) (D : va_G) (cA : ClassId) (t t_page t_kinds t_deep t_leans t_moss t_rain t_mossThen t_when t_sights t_keptKinds t_keptDeep t_keptLeans t_keptMoss t_keptSights : Nat) (sz : Nat) (t_pageMany : Int32) (t_end : Int32) (t_clauses : Int32) (t_rains : Int32) (t_weekNext : Int32) (t_breaths : Int32) (t_wallsRead : Int32) (t_needsDone : Int32) (t_seenMany : Int32) (t_seedNow : Int32) (t_keptWall : Int32) (t_keptWeek : Int32) (t_keptBreaths : Int32) (t_keptSeen : Int32) (t_hash : Int64) (c_t_page : Nat → Int32) (r : Int32) (o_t_end : Int32) (hM : mX7_fault t_pageMany t_end c_t_page = some (r, o_t_end)) : Met l yX7_fault wsX7_fault rmX7_fault (va_Pc [.ref t] (fun U => U.heap.size = sz ∧ va_P D vwCl [(t, .inr (7, [.ref t_page, .int t_pageMany, .int t_end, .int t_clauses, .int t_rains, .int t_weekNext, .int t_breaths, .int t_wallsRead, .ref t_kinds, .ref t_deep, .ref t_leans, .ref t_moss, .ref t_rain, .ref t_mossThen, .ref t_when, .int t_needsDone, .int t_seenMany, .ref t_sights, .int t_seedNow, .int t_keptWall, .int t_keptWeek, .int t_keptBreaths, .int t_keptSeen, .ref t_keptKinds, .ref t_keptDeep, .ref t_keptLeans, .ref t_keptMoss, .ref t_keptSights, .long t_hash])), (t_page, .inl (cA, 36, .inl c_t_page))] U.heap ∧ mw_ev D cA U ∧ va_D (fun _ => True) [(t, .inr (7, [.ref t_page, .int t_pageMany, .int t_end, .int t_clauses, .int t_rains, .int t_weekNext, .int t_breaths, .int t_wallsRead, .ref t_kinds, .ref t_deep, .ref t_leans, .ref t_moss, .ref t_rain, .ref t_mossThen, .ref t_when, .int t_needsDone, .int t_seenMany, .ref t_sights, .int t_seedNow, .int t_keptWall, .int t_keptWeek, .int t_keptBreaths, .int t_keptSeen, .ref t_keptKinds, .ref t_keptDeep, .ref t_keptLeans, .ref t_keptMoss, .ref t_keptSights, .long t_hash])), (t_page, .inl (cA, 36, .inl c_t_page))])) (va_Qi (fun (v : Int32) (_ : Unit) => v = r) (fun (_ : Unit) w_ => va_P D vwCl [(t, .inr (7, [.ref t_page, .int t_pageMany, .int o_t_end, .int t_clauses, .int t_rains, .int t_weekNext, .int t_breaths, .int t_wallsRead, .ref t_kinds, .ref t_deep, .ref t_leans, .ref t_moss, .ref t_rain, .ref t_mossThen, .ref t_when, .int t_needsDone, .int t_seenMany, .ref t_sights, .int t_seedNow, .int t_keptWall, .int t_keptWeek, .int t_keptBreaths, .int t_keptSeen, .ref t_keptKinds, .ref t_keptDeep, .ref t_keptLeans, .ref t_keptMoss, .ref t_keptSights, .long t_hash])), (t_page, .inl (cA, 36, .inl c_t_page))] w_.heap ∧ va_D (va_A [(t, .inr (7, [.ref t_page, .int t_pageMany, .int t_end, .int t_clauses, .int t_rains, .int t_weekNext, .int t_breaths, .int t_wallsRead, .ref t_kinds, .ref t_deep, .ref t_leans, .ref t_moss, .ref t_rain, .ref t_mossThen, .ref t_when, .int t_needsDone, .int t_seenMany, .ref t_sights, .int t_seedNow, .int t_keptWall, .int t_keptWeek, .int t_keptBreaths, .int t_keptSeen, .ref t_keptKinds, .ref t_keptDeep, .ref t_keptLeans, .ref t_keptMoss, .ref t_keptSights, .long t_hash])), (t_page, .inl (cA, 36, .inl c_t_page))] sz) [(t, .inr (7, [.ref t_page, .int t_pageMany, .int o_t_end, .int t_clauses, .int t_rains, .int t_weekNext, .int t_breaths, .int t_wallsRead, .ref t_kinds, .ref t_deep, .ref t_leans, .ref t_moss, .ref t_rain, .ref t_mossThen, .ref t_when, .int t_needsDone, .int t_seenMany, .ref t_sights, .int t_seedNow, .int t_keptWall, .int t_keptWeek, .int t_keptBreaths, .int t_keptSeen, .ref t_keptKinds, .ref t_keptDeep, .ref t_keptLeans, .ref t_keptMoss, .ref t_keptSights, .long t_hash])), (t_page, .inl (cA, 36, .inl c_t_page))]) (va_A [(t, .inr (7, [.ref t_page, .int t_pageMany, .int t_end, .int t_clauses, .int t_rains, .int t_weekNext, .int t_breaths, .int t_wallsRead, .ref t_kinds, .ref t_deep, .ref t_leans, .ref t_moss, .ref t_rain, .ref t_mossThen, .ref t_when, .int t_needsDone, .int t_seenMany, .ref t_sights, .int t_seedNow, .int t_keptWall, .int t_keptWeek, .int t_keptBreaths, .int t_keptSeen, .ref t_keptKinds, .ref t_keptDeep, .ref t_keptLeans, .ref t_keptMoss, .ref t_keptSights, .long t_hash])), (t_page, .inl (cA, 36, .inl c_t_page))] sz)) 0 0 (va_A [(t, .inr (7, [.ref t_page, .int t_pageMany, .int t_end, .int t_clauses, .int t_rains, .int t_weekNext, .int t_breaths, .int t_wallsRead, .ref t_kinds, .ref t_deep, .ref t_leans, .ref t_moss, .ref t_rain, .ref t_mossThen, .ref t_when, .int t_needsDone, .int t_seenMany, .ref t_sights, .int t_seedNow, .int t_keptWall, .int t_keptWeek, .int t_keptBreaths, .int t_keptSeen, .ref t_keptKinds, .ref t_keptDeep, .ref t_keptLeans, .ref t_keptMoss, .ref t_keptSights, .long t_hash])), (t_page, .inl (cA, 36, .inl c_t_page))] sz) := by
  unfold mX7_fault at hM
  refine Met.ofW (cc := cX7_fault) (maxL := 1) (ret := (some .int)) (by decide) rfl ?_
  intro p e s m args below meth c s₁ B hml hv
  obtain ⟨rfl, hsz, hP, hE, hD0⟩ := hv
  have hx := B.exec
  have hb := B.bytes
  have hr := B.returns
  have hts := atoms_spec (ws := wsX7_fault) B.pre
  have hown : s.vm.findClass RX7 = some m.cls := findClass_of_methodNamed B.named
  have hlocks := B.notSynchronized
  have hK := hE.1
  subst hsz
  have hD := hD0.self (sz := s.heap.size)
  generalize hAe : va_A [(t, .inr (7, [.ref t_page, .int t_pageMany, .int t_end, .int t_clauses, .int t_rains, .int t_weekNext, .int t_breaths, .int t_wallsRead, .ref t_kinds, .ref t_deep, .ref t_leans, .ref t_moss, .ref t_rain, .ref t_mossThen, .ref t_when, .int t_needsDone, .int t_seenMany, .ref t_sights, .int t_seedNow, .int t_keptWall, .int t_keptWeek, .int t_keptBreaths, .int t_keptSeen, .ref t_keptKinds, .ref t_keptDeep, .ref t_keptLeans, .ref t_keptMoss, .ref t_keptSights, .long t_hash])), (t_page, .inl (cA, 36, .inl c_t_page))] s.heap.size = A at hD ⊢
  have hA : ∀ q : Nat, s.heap.size ≤ q → A q := fun q h => by rw [← hAe]; exact Or.inr h
  have hS : va_S A s.heap s.heap [] := va_S.rf
  have hl := lv_entry ([.ref t]) (n := 1) (Nat.le_of_ble_eq_true rfl)
  rw [lg_entry_eq]
  generalize (lg_sl ([.ref t]) ++ List.replicate (1 - (lg_sl ([.ref t])).length) Slot.unset).toArray = ls at hl ⊢
  have hl : lv_has ls 1 [(0, .ref t)] := hl
  refine mw_q (P := fun Q => W p l e (headSpec wsX7_fault rmX7_fault).room s m (([.ref t] : List Value).toArray) below meth c s.heap [] 0 0 Q (F0 m 0 ls [])) (fun Q hQ => ?_)
  refine lv_aload_n hx hb dX7_fault_0 rfl (lv_at hl 0 rfl) ?_
  obtain ⟨r1, u1_t_end, h1, hM⟩ := mw_d2 hM
  have hPc := hP.sub (ws' := [(t, .inr (7, [.ref t_page, .int t_pageMany, .int t_end, .int t_clauses, .int t_rains, .int t_weekNext, .int t_breaths, .int t_wallsRead, .ref t_kinds, .ref t_deep, .ref t_leans, .ref t_moss, .ref t_rain, .ref t_mossThen, .ref t_when, .int t_needsDone, .int t_seenMany, .ref t_sights, .int t_seedNow, .int t_keptWall, .int t_keptWeek, .int t_keptBreaths, .int t_keptSeen, .ref t_keptKinds, .ref t_keptDeep, .ref t_keptLeans, .ref t_keptMoss, .ref t_keptSights, .long t_hash])), (t_page, .inl (cA, 36, .inl c_t_page))]) [0, 1] rfl
  have hDc := hD.sub (ws' := [(t, .inr (7, [.ref t_page, .int t_pageMany, .int t_end, .int t_clauses, .int t_rains, .int t_weekNext, .int t_breaths, .int t_wallsRead, .ref t_kinds, .ref t_deep, .ref t_leans, .ref t_moss, .ref t_rain, .ref t_mossThen, .ref t_when, .int t_needsDone, .int t_seenMany, .ref t_sights, .int t_seedNow, .int t_keptWall, .int t_keptWeek, .int t_keptBreaths, .int t_keptSeen, .ref t_keptKinds, .ref t_keptDeep, .ref t_keptLeans, .ref t_keptMoss, .ref t_keptSights, .long t_hash])), (t_page, .inl (cA, 36, .inl c_t_page))]) [0, 1] (by decide) rfl
  have hFc := va_free (wc := [(t, .inr (7, [.ref t_page, .int t_pageMany, .int t_end, .int t_clauses, .int t_rains, .int t_weekNext, .int t_breaths, .int t_wallsRead, .ref t_kinds, .ref t_deep, .ref t_leans, .ref t_moss, .ref t_rain, .ref t_mossThen, .ref t_when, .int t_needsDone, .int t_seenMany, .ref t_sights, .int t_seedNow, .int t_keptWall, .int t_keptWeek, .int t_keptBreaths, .int t_keptSeen, .ref t_keptKinds, .ref t_keptDeep, .ref t_keptLeans, .ref t_keptMoss, .ref t_keptSights, .long t_hash])), (t_page, .inl (cA, 36, .inl c_t_page))]) hD hS hA [0, 1] rfl
  refine va_calli (va_runV (As := []) (rest := []) ⟨hx, hb, hml, hown, hts⟩ (kX7_faultOf l D cA t t_page t_kinds t_deep t_leans t_moss t_rain t_mossThen t_when t_sights t_keptKinds t_keptDeep t_keptLeans t_keptMoss t_keptSights _ t_pageMany t_end t_clauses t_rains t_weekNext t_breaths t_wallsRead t_needsDone t_seenMany t_seedNow t_keptWall t_keptWeek t_keptBreaths t_keptSeen t_hash c_t_page r1 u1_t_end h1) (cwV 0 hts gX7_fault_X7_faultOf rfl rfl rfl (by decide +kernel) ⟨Nat.le_of_ble_eq_true rfl, Nat.le_of_ble_eq_true rfl⟩) ⟨mw_fbW, va_recv hK hP (ci := 7) (q0 := 0) rfl rfl, mw_puW hPc hE hDc⟩ rfl rfl hl.1 rfl (lv_room (Nat.le_of_ble_eq_true rfl)) dX7_fault_1 ⟨Nat.zero_le _, Nat.zero_le _⟩) hS (fun q _ h => hFc q h) hFc (fun v_ _ t_ H locs ht_ _ e_ hB_ _ hk_ hS => ?_)
  subst v_
  obtain ⟨hP1, hD1⟩ := hB_
  rw [ht_] at hP1
  obtain ⟨hP, hD⟩ := va_join (wr := []) (w1 := [(t, .inr (7, [.ref t_page, .int t_pageMany, .int u1_t_end, .int t_clauses, .int t_rains, .int t_weekNext, .int t_breaths, .int t_wallsRead, .ref t_kinds, .ref t_deep, .ref t_leans, .ref t_moss, .ref t_rain, .ref t_mossThen, .ref t_when, .int t_needsDone, .int t_seenMany, .ref t_sights, .int t_seedNow, .int t_keptWall, .int t_keptWeek, .int t_keptBreaths, .int t_keptSeen, .ref t_keptKinds, .ref t_keptDeep, .ref t_keptLeans, .ref t_keptMoss, .ref t_keptSights, .long t_hash])), (t_page, .inl (cA, 36, .inl c_t_page))]) hP hD [0, 1] [] rfl rfl (by decide) (by decide) hk_ hFc hP1 hD1
  have hP : va_P D vwCl [(t, .inr (7, [.ref t_page, .int t_pageMany, .int u1_t_end, .int t_clauses, .int t_rains, .int t_weekNext, .int t_breaths, .int t_wallsRead, .ref t_kinds, .ref t_deep, .ref t_leans, .ref t_moss, .ref t_rain, .ref t_mossThen, .ref t_when, .int t_needsDone, .int t_seenMany, .ref t_sights, .int t_seedNow, .int t_keptWall, .int t_keptWeek, .int t_keptBreaths, .int t_keptSeen, .ref t_keptKinds, .ref t_keptDeep, .ref t_keptLeans, .ref t_keptMoss, .ref t_keptSights, .long t_hash])), (t_page, .inl (cA, 36, .inl c_t_page))] H := hP
  have hD : va_D A [(t, .inr (7, [.ref t_page, .int t_pageMany, .int u1_t_end, .int t_clauses, .int t_rains, .int t_weekNext, .int t_breaths, .int t_wallsRead, .ref t_kinds, .ref t_deep, .ref t_leans, .ref t_moss, .ref t_rain, .ref t_mossThen, .ref t_when, .int t_needsDone, .int t_seenMany, .ref t_sights, .int t_seedNow, .int t_keptWall, .int t_keptWeek, .int t_keptBreaths, .int t_keptSeen, .ref t_keptKinds, .ref t_keptDeep, .ref t_keptLeans, .ref t_keptMoss, .ref t_keptSights, .long t_hash])), (t_page, .inl (cA, 36, .inl c_t_page))] := hD
  obtain ⟨rfl, rfl⟩ := mw_o2 hM
  subst hQ
  exact W.iret hx hb hr (fun t ht hW => ⟨⟨_, (), rfl, rfl, by rw [ht]; exact hP, hD⟩, hS.F ht⟩) hS.2.2 dX7_fault_4
def mX7_wall_L2 (t_pageMany : Int32) (c_t_page : Nat → Int32) (u1_t_end : Int32) (k2_198 : Int32 → (Nat → Int32) → Option (Int32 × Int32 × Int32 × Int32 × Int32 × Int32 × Int32 × Int32 × Int32 × (Nat → Int32) × (Nat → Int32) × (Nat → Int32) × (Nat → Int32) × (Nat → Int32))) : Nat → Int32 → (Nat → Int32) → Option (Int32 × Int32 × Int32 × Int32 × Int32 × Int32 × Int32 × Int32 × Int32 × (Nat → Int32) × (Nat → Int32) × (Nat → Int32) × (Nat → Int32) × (Nat → Int32))
  | 0, _, _ => none
  | n2 + 1, x2_2, y2_t_rain =>
    (if ((t_pageMany - u1_t_end) - 1) ≤ x2_2 then k2_198 x2_2 y2_t_rain else (mw_rd c_t_page 36 ((u1_t_end + 1) + x2_2)).bind fun e19 => (mw_wr y2_t_rain 8 x2_2 (e19 - 48)).bind fun a20_rain => mX7_wall_L2 t_pageMany c_t_page u1_t_end k2_198 n2 (x2_2 + 1) a20_rain)
def mX7_wall_L1 (c_t_page : Nat → Int32) (u1_t_end : Int32) (k1_160 : Int32 → (Nat → Int32) → (Nat → Int32) → (Nat → Int32) → (Nat → Int32) → Option (Int32 × Int32 × Int32 × Int32 × Int32 × Int32 × Int32 × Int32 × Int32 × (Nat → Int32) × (Nat → Int32) × (Nat → Int32) × (Nat → Int32) × (Nat → Int32))) : Nat → Int32 → (Nat → Int32) → (Nat → Int32) → (Nat → Int32) → (Nat → Int32) → Option (Int32 × Int32 × Int32 × Int32 × Int32 × Int32 × Int32 × Int32 × Int32 × (Nat → Int32) × (Nat → Int32) × (Nat → Int32) × (Nat → Int32) × (Nat → Int32))
  | 0, _, _, _, _, _ => none
  | n1 + 1, x2_1, y1_t_kinds, y1_t_deep, y1_t_leans, y1_t_moss =>
    (if ((u1_t_end + 1) / 4) ≤ x2_1 then k1_160 x2_1 y1_t_kinds y1_t_deep y1_t_leans y1_t_moss else (mw_rd c_t_page 36 (4 * x2_1)).bind fun e6 => (mX7_kindBy e6).bind fun r7 => (mw_wr y1_t_kinds 6 x2_1 r7).bind fun a8_kinds => (mw_rd c_t_page 36 ((4 * x2_1) + 1)).bind fun e9 => (mw_wr y1_t_deep 6 x2_1 (e9 - 48)).bind fun a10_deep => (mw_rd c_t_page 36 ((4 * x2_1) + 2)).bind fun e11 => (if e11 = 45 then (mw_wr y1_t_leans 6 x2_1 ((-1))).bind fun a16_leans => (mw_wr y1_t_moss 6 x2_1 0).bind fun a17_moss => mX7_wall_L1 c_t_page u1_t_end k1_160 n1 (x2_1 + 1) a8_kinds a10_deep a16_leans a17_moss else (mw_rd c_t_page 36 ((4 * x2_1) + 2)).bind fun e13 => (mw_wr y1_t_leans 6 x2_1 (e13 - 48)).bind fun a14_leans => (mw_wr y1_t_moss 6 x2_1 0).bind fun a15_moss => mX7_wall_L1 c_t_page u1_t_end k1_160 n1 (x2_1 + 1) a8_kinds a10_deep a14_leans a15_moss))
def mX7_wall (t_pageMany : Int32) (t_end : Int32) (t_clauses : Int32) (t_rains : Int32) (t_weekNext : Int32) (t_breaths : Int32) (t_wallsRead : Int32) (t_seenMany : Int32) (c_t_page : Nat → Int32) (c_t_kinds : Nat → Int32) (c_t_deep : Nat → Int32) (c_t_leans : Nat → Int32) (c_t_moss : Nat → Int32) (c_t_rain : Nat → Int32) : Option (Int32 × Int32 × Int32 × Int32 × Int32 × Int32 × Int32 × Int32 × Int32 × (Nat → Int32) × (Nat → Int32) × (Nat → Int32) × (Nat → Int32) × (Nat → Int32)) :=
  mw_b2 (mX7_faultOf t_pageMany t_end c_t_page) fun r1 u1_t_end => (if r1 < t_pageMany then some ((-103), t_pageMany, u1_t_end, t_clauses, t_rains, t_weekNext, t_breaths, t_wallsRead, t_seenMany, c_t_kinds, c_t_deep, c_t_leans, c_t_moss, c_t_rain) else (if u1_t_end = 0 then some ((-103), t_pageMany, u1_t_end, t_clauses, t_rains, t_weekNext, t_breaths, t_wallsRead, t_seenMany, c_t_kinds, c_t_deep, c_t_leans, c_t_moss, c_t_rain) else (if t_pageMany = (u1_t_end + 1) then some ((-103), t_pageMany, u1_t_end, t_clauses, t_rains, t_weekNext, t_breaths, t_wallsRead, t_seenMany, c_t_kinds, c_t_deep, c_t_leans, c_t_moss, c_t_rain) else mX7_wall_L1 c_t_page u1_t_end (fun (x2_1 : Int32) (y1_t_kinds : Nat → Int32) (y1_t_deep : Nat → Int32) (y1_t_leans : Nat → Int32) (y1_t_moss : Nat → Int32) => mX7_wall_L2 t_pageMany c_t_page u1_t_end (fun (x2_2 : Int32) (y2_t_rain : Nat → Int32) => some ((u1_t_end + 1) / 4, 0, u1_t_end, (u1_t_end + 1) / 4, (t_pageMany - u1_t_end) - 1, 0, 0, t_wallsRead + 1, 0, y1_t_kinds, y1_t_deep, y1_t_leans, y1_t_moss, y2_t_rain)) 300 0 c_t_rain) 300 0 c_t_kinds c_t_deep c_t_leans c_t_moss)))
abbrev rmX7_wall : Room := ({ frames := 3, cells := 0, slots := 0, locals := 68 } : Room)
set_option maxHeartbeats 4000000 in
set_option maxRecDepth 100000 in
theorem kX7_wall (l : Launch) (D : va_G) (cA : ClassId) (t t_page t_kinds t_deep t_leans t_moss t_rain t_mossThen t_when t_sights t_keptKinds t_keptDeep t_keptLeans t_keptMoss t_keptSights : Nat) (sz : Nat) (t_pageMany : Int32) (t_end : Int32) (t_clauses : Int32) (t_rains : Int32) (t_weekNext : Int32) (t_breaths : Int32) (t_wallsRead : Int32) (t_needsDone : Int32) (t_seenMany : Int32) (t_seedNow : Int32) (t_keptWall : Int32) (t_keptWeek : Int32) (t_keptBreaths : Int32) (t_keptSeen : Int32) (t_hash : Int64) (c_t_page : Nat → Int32) (c_t_kinds : Nat → Int32) (c_t_deep : Nat → Int32) (c_t_leans : Nat → Int32) (c_t_moss : Nat → Int32) (c_t_rain : Nat → Int32) (r : Int32) (o_t_pageMany : Int32) (o_t_end : Int32) (o_t_clauses : Int32) (o_t_rains : Int32) (o_t_weekNext : Int32) (o_t_breaths : Int32) (o_t_wallsRead : Int32) (o_t_seenMany : Int32) (o_c_t_kinds : Nat → Int32) (o_c_t_deep : Nat → Int32) (o_c_t_leans : Nat → Int32) (o_c_t_moss : Nat → Int32) (o_c_t_rain : Nat → Int32) (hM : mX7_wall t_pageMany t_end t_clauses t_rains t_weekNext t_breaths t_wallsRead t_seenMany c_t_page c_t_kinds c_t_deep c_t_leans c_t_moss c_t_rain = some (r, o_t_pageMany, o_t_end, o_t_clauses, o_t_rains, o_t_weekNext, o_t_breaths, o_t_wallsRead, o_t_seenMany, o_c_t_kinds, o_c_t_deep, o_c_t_leans, o_c_t_moss, o_c_t_rain)) : Met l yX7_wall wsX7_wall rmX7_wall (va_Pc [.ref t] (fun U => U.heap.size = sz ∧ va_P D vwCl [(t, .inr (7, [.ref t_page, .int t_pageMany, .int t_end, .int t_clauses, .int t_rains, .int t_weekNext, .int t_breaths, .int t_wallsRead, .ref t_kinds, .ref t_deep, .ref t_leans, .ref t_moss, .ref t_rain, .ref t_mossThen, .ref t_when, .int t_needsDone, .int t_seenMany, .ref t_sights, .int t_seedNow, .int t_keptWall, .int t_keptWeek, .int t_keptBreaths, .int t_keptSeen, .ref t_keptKinds, .ref t_keptDeep, .ref t_keptLeans, .ref t_keptMoss, .ref t_keptSights, .long t_hash])), (t_page, .inl (cA, 36, .inl c_t_page)), (t_kinds, .inl (cA, 6, .inl c_t_kinds)), (t_deep, .inl (cA, 6, .inl c_t_deep)), (t_leans, .inl (cA, 6, .inl c_t_leans)), (t_moss, .inl (cA, 6, .inl c_t_moss)), (t_rain, .inl (cA, 8, .inl c_t_rain))] U.heap ∧ mw_ev D cA U ∧ va_D (fun _ => True) [(t, .inr (7, [.ref t_page, .int t_pageMany, .int t_end, .int t_clauses, .int t_rains, .int t_weekNext, .int t_breaths, .int t_wallsRead, .ref t_kinds, .ref t_deep, .ref t_leans, .ref t_moss, .ref t_rain, .ref t_mossThen, .ref t_when, .int t_needsDone, .int t_seenMany, .ref t_sights, .int t_seedNow, .int t_keptWall, .int t_keptWeek, .int t_keptBreaths, .int t_keptSeen, .ref t_keptKinds, .ref t_keptDeep, .ref t_keptLeans, .ref t_keptMoss, .ref t_keptSights, .long t_hash])), (t_page, .inl (cA, 36, .inl c_t_page)), (t_kinds, .inl (cA, 6, .inl c_t_kinds)), (t_deep, .inl (cA, 6, .inl c_t_deep)), (t_leans, .inl (cA, 6, .inl c_t_leans)), (t_moss, .inl (cA, 6, .inl c_t_moss)), (t_rain, .inl (cA, 8, .inl c_t_rain))])) (va_Qi (fun (v : Int32) (_ : Unit) => v = r) (fun (_ : Unit) w_ => va_P D vwCl [(t, .inr (7, [.ref t_page, .int o_t_pageMany, .int o_t_end, .int o_t_clauses, .int o_t_rains, .int o_t_weekNext, .int o_t_breaths, .int o_t_wallsRead, .ref t_kinds, .ref t_deep, .ref t_leans, .ref t_moss, .ref t_rain, .ref t_mossThen, .ref t_when, .int t_needsDone, .int o_t_seenMany, .ref t_sights, .int t_seedNow, .int t_keptWall, .int t_keptWeek, .int t_keptBreaths, .int t_keptSeen, .ref t_keptKinds, .ref t_keptDeep, .ref t_keptLeans, .ref t_keptMoss, .ref t_keptSights, .long t_hash])), (t_page, .inl (cA, 36, .inl c_t_page)), (t_kinds, .inl (cA, 6, .inl o_c_t_kinds)), (t_deep, .inl (cA, 6, .inl o_c_t_deep)), (t_leans, .inl (cA, 6, .inl o_c_t_leans)), (t_moss, .inl (cA, 6, .inl o_c_t_moss)), (t_rain, .inl (cA, 8, .inl o_c_t_rain))] w_.heap ∧ va_D (va_A [(t, .inr (7, [.ref t_page, .int t_pageMany, .int t_end, .int t_clauses, .int t_rains, .int t_weekNext, .int t_breaths, .int t_wallsRead, .ref t_kinds, .ref t_deep, .ref t_leans, .ref t_moss, .ref t_rain, .ref t_mossThen, .ref t_when, .int t_needsDone, .int t_seenMany, .ref t_sights, .int t_seedNow, .int t_keptWall, .int t_keptWeek, .int t_keptBreaths, .int t_keptSeen, .ref t_keptKinds, .ref t_keptDeep, .ref t_keptLeans, .ref t_keptMoss, .ref t_keptSights, .long t_hash])), (t_page, .inl (cA, 36, .inl c_t_page)), (t_kinds, .inl (cA, 6, .inl c_t_kinds)), (t_deep, .inl (cA, 6, .inl c_t_deep)), (t_leans, .inl (cA, 6, .inl c_t_leans)), (t_moss, .inl (cA, 6, .inl c_t_moss)), (t_rain, .inl (cA, 8, .inl c_t_rain))] sz) [(t, .inr (7, [.ref t_page, .int o_t_pageMany, .int o_t_end, .int o_t_clauses, .int o_t_rains, .int o_t_weekNext, .int o_t_breaths, .int o_t_wallsRead, .ref t_kinds, .ref t_deep, .ref t_leans, .ref t_moss, .ref t_rain, .ref t_mossThen, .ref t_when, .int t_needsDone, .int o_t_seenMany, .ref t_sights, .int t_seedNow, .int t_keptWall, .int t_keptWeek, .int t_keptBreaths, .int t_keptSeen, .ref t_keptKinds, .ref t_keptDeep, .ref t_keptLeans, .ref t_keptMoss, .ref t_keptSights, .long t_hash])), (t_page, .inl (cA, 36, .inl c_t_page)), (t_kinds, .inl (cA, 6, .inl o_c_t_kinds)), (t_deep, .inl (cA, 6, .inl o_c_t_deep)), (t_leans, .inl (cA, 6, .inl o_c_t_leans)), (t_moss, .inl (cA, 6, .inl o_c_t_moss)), (t_rain, .inl (cA, 8, .inl o_c_t_rain))]) (va_A [(t, .inr (7, [.ref t_page, .int t_pageMany, .int t_end, .int t_clauses, .int t_rains, .int t_weekNext, .int t_breaths, .int t_wallsRead, .ref t_kinds, .ref t_deep, .ref t_leans, .ref t_moss, .ref t_rain, .ref t_mossThen, .ref t_when, .int t_needsDone, .int t_seenMany, .ref t_sights, .int t_seedNow, .int t_keptWall, .int t_keptWeek, .int t_keptBreaths, .int t_keptSeen, .ref t_keptKinds, .ref t_keptDeep, .ref t_keptLeans, .ref t_keptMoss, .ref t_keptSights, .long t_hash])), (t_page, .inl (cA, 36, .inl c_t_page)), (t_kinds, .inl (cA, 6, .inl c_t_kinds)), (t_deep, .inl (cA, 6, .inl c_t_deep)), (t_leans, .inl (cA, 6, .inl c_t_leans)), (t_moss, .inl (cA, 6, .inl c_t_moss)), (t_rain, .inl (cA, 8, .inl c_t_rain))] sz)) 0 0 (va_A [(t, .inr (7, [.ref t_page, .int t_pageMany, .int t_end, .int t_clauses, .int t_rains, .int t_weekNext, .int t_breaths, .int t_wallsRead, .ref t_kinds, .ref t_deep, .ref t_leans, .ref t_moss, .ref t_rain, .ref t_mossThen, .ref t_when, .int t_needsDone, .int t_seenMany, .ref t_sights, .int t_seedNow, .int t_keptWall, .int t_keptWeek, .int t_keptBreaths, .int t_keptSeen, .ref t_keptKinds, .ref t_keptDeep, .ref t_keptLeans, .ref t_keptMoss, .ref t_keptSights, .long t_hash])), (t_page, .inl (cA, 36, .inl c_t_page)), (t_kinds, .inl (cA, 6, .inl c_t_kinds)), (t_deep, .inl (cA, 6, .inl c_t_deep)), (t_leans, .inl (cA, 6, .inl c_t_leans)), (t_moss, .inl (cA, 6, .inl c_t_moss)), (t_rain, .inl (cA, 8, .inl c_t_rain))] sz) := by
  unfold mX7_wall at hM
  refine Met.ofW (cc := cX7_wall) (maxL := 3) (ret := (some .int)) (by decide) rfl ?_
  intro p e s m args below meth c s₁ B hml hv
  obtain ⟨rfl, hsz, hP, hE, hD0⟩ := hv
  have hx := B.exec
  have hb := B.bytes
  have hr := B.returns
  have hts := atoms_spec (ws := wsX7_wall) B.pre
  have hown : s.vm.findClass RX7 = some m.cls := findClass_of_methodNamed B.named
  have hlocks := B.notSynchronized
  have hK := hE.1
  subst hsz
  have hD := hD0.self (sz := s.heap.size)
  generalize hAe : va_A [(t, .inr (7, [.ref t_page, .int t_pageMany, .int t_end, .int t_clauses, .int t_rains, .int t_weekNext, .int t_breaths, .int t_wallsRead, .ref t_kinds, .ref t_deep, .ref t_leans, .ref t_moss, .ref t_rain, .ref t_mossThen, .ref t_when, .int t_needsDone, .int t_seenMany, .ref t_sights, .int t_seedNow, .int t_keptWall, .int t_keptWeek, .int t_keptBreaths, .int t_keptSeen, .ref t_keptKinds, .ref t_keptDeep, .ref t_keptLeans, .ref t_keptMoss, .ref t_keptSights, .long t_hash])), (t_page, .inl (cA, 36, .inl c_t_page)), (t_kinds, .inl (cA, 6, .inl c_t_kinds)), (t_deep, .inl (cA, 6, .inl c_t_deep)), (t_leans, .inl (cA, 6, .inl c_t_leans)), (t_moss, .inl (cA, 6, .inl c_t_moss)), (t_rain, .inl (cA, 8, .inl c_t_rain))] s.heap.size = A at hD ⊢
  have hA : ∀ q : Nat, s.heap.size ≤ q → A q := fun q h => by rw [← hAe]; exact Or.inr h
  have hS : va_S A s.heap s.heap [] := va_S.rf
  have hl := lv_entry ([.ref t]) (n := 3) (Nat.le_of_ble_eq_true rfl)
  rw [lg_entry_eq]
  generalize (lg_sl ([.ref t]) ++ List.replicate (3 - (lg_sl ([.ref t])).length) Slot.unset).toArray = ls at hl ⊢
  have hl : lv_has ls 3 [(0, .ref t)] := hl
  refine mw_q (P := fun Q => W p l e (headSpec wsX7_wall rmX7_wall).room s m (([.ref t] : List Value).toArray) below meth c s.heap [] 0 0 Q (F0 m 0 ls [])) (fun Q hQ => ?_)
  refine lv_aload_n hx hb dX7_wall_0 rfl (lv_at hl 0 rfl) ?_
  obtain ⟨r1, u1_t_end, h1, hM⟩ := mw_d2 hM
  have hPc := hP.sub (ws' := [(t, .inr (7, [.ref t_page, .int t_pageMany, .int t_end, .int t_clauses, .int t_rains, .int t_weekNext, .int t_breaths, .int t_wallsRead, .ref t_kinds, .ref t_deep, .ref t_leans, .ref t_moss, .ref t_rain, .ref t_mossThen, .ref t_when, .int t_needsDone, .int t_seenMany, .ref t_sights, .int t_seedNow, .int t_keptWall, .int t_keptWeek, .int t_keptBreaths, .int t_keptSeen, .ref t_keptKinds, .ref t_keptDeep, .ref t_keptLeans, .ref t_keptMoss, .ref t_keptSights, .long t_hash])), (t_page, .inl (cA, 36, .inl c_t_page))]) [0, 1] rfl
  have hDc := hD.sub (ws' := [(t, .inr (7, [.ref t_page, .int t_pageMany, .int t_end, .int t_clauses, .int t_rains, .int t_weekNext, .int t_breaths, .int t_wallsRead, .ref t_kinds, .ref t_deep, .ref t_leans, .ref t_moss, .ref t_rain, .ref t_mossThen, .ref t_when, .int t_needsDone, .int t_seenMany, .ref t_sights, .int t_seedNow, .int t_keptWall, .int t_keptWeek, .int t_keptBreaths, .int t_keptSeen, .ref t_keptKinds, .ref t_keptDeep, .ref t_keptLeans, .ref t_keptMoss, .ref t_keptSights, .long t_hash])), (t_page, .inl (cA, 36, .inl c_t_page))]) [0, 1] (by decide) rfl
  have hFc := va_free (wc := [(t, .inr (7, [.ref t_page, .int t_pageMany, .int t_end, .int t_clauses, .int t_rains, .int t_weekNext, .int t_breaths, .int t_wallsRead, .ref t_kinds, .ref t_deep, .ref t_leans, .ref t_moss, .ref t_rain, .ref t_mossThen, .ref t_when, .int t_needsDone, .int t_seenMany, .ref t_sights, .int t_seedNow, .int t_keptWall, .int t_keptWeek, .int t_keptBreaths, .int t_keptSeen, .ref t_keptKinds, .ref t_keptDeep, .ref t_keptLeans, .ref t_keptMoss, .ref t_keptSights, .long t_hash])), (t_page, .inl (cA, 36, .inl c_t_page))]) hD hS hA [0, 1] rfl
  refine va_calli (va_runV (As := []) (rest := []) ⟨hx, hb, hml, hown, hts⟩ (kX7_faultOf l D cA t t_page t_kinds t_deep t_leans t_moss t_rain t_mossThen t_when t_sights t_keptKinds t_keptDeep t_keptLeans t_keptMoss t_keptSights _ t_pageMany t_end t_clauses t_rains t_weekNext t_breaths t_wallsRead t_needsDone t_seenMany t_seedNow t_keptWall t_keptWeek t_keptBreaths t_keptSeen t_hash c_t_page r1 u1_t_end h1) (cwV 0 hts gX7_wall_X7_faultOf rfl rfl rfl (by decide +kernel) ⟨Nat.le_of_ble_eq_true rfl, Nat.le_of_ble_eq_true rfl⟩) ⟨mw_fbW, va_recv hK hP (ci := 7) (q0 := 0) rfl rfl, mw_puW hPc hE hDc⟩ rfl rfl hl.1 rfl (lv_room (Nat.le_of_ble_eq_true rfl)) dX7_wall_1 ⟨Nat.zero_le _, Nat.zero_le _⟩) hS (fun q _ h => hFc q h) hFc (fun v_ _ t_ H locs ht_ _ e_ hB_ _ hk_ hS => ?_)
  subst v_
  obtain ⟨hP1, hD1⟩ := hB_
  rw [ht_] at hP1
  obtain ⟨hP, hD⟩ := va_join (wr := [(t_kinds, .inl (cA, 6, .inl c_t_kinds)), (t_deep, .inl (cA, 6, .inl c_t_deep)), (t_leans, .inl (cA, 6, .inl c_t_leans)), (t_moss, .inl (cA, 6, .inl c_t_moss)), (t_rain, .inl (cA, 8, .inl c_t_rain))]) (w1 := [(t, .inr (7, [.ref t_page, .int t_pageMany, .int u1_t_end, .int t_clauses, .int t_rains, .int t_weekNext, .int t_breaths, .int t_wallsRead, .ref t_kinds, .ref t_deep, .ref t_leans, .ref t_moss, .ref t_rain, .ref t_mossThen, .ref t_when, .int t_needsDone, .int t_seenMany, .ref t_sights, .int t_seedNow, .int t_keptWall, .int t_keptWeek, .int t_keptBreaths, .int t_keptSeen, .ref t_keptKinds, .ref t_keptDeep, .ref t_keptLeans, .ref t_keptMoss, .ref t_keptSights, .long t_hash])), (t_page, .inl (cA, 36, .inl c_t_page))]) hP hD [0, 1] [2, 3, 4, 5, 6] rfl rfl (by decide) (by decide) hk_ hFc hP1 hD1
  have hP : va_P D vwCl [(t_kinds, .inl (cA, 6, .inl c_t_kinds)), (t_deep, .inl (cA, 6, .inl c_t_deep)), (t_leans, .inl (cA, 6, .inl c_t_leans)), (t_moss, .inl (cA, 6, .inl c_t_moss)), (t_rain, .inl (cA, 8, .inl c_t_rain)), (t, .inr (7, [.ref t_page, .int t_pageMany, .int u1_t_end, .int t_clauses, .int t_rains, .int t_weekNext, .int t_breaths, .int t_wallsRead, .ref t_kinds, .ref t_deep, .ref t_leans, .ref t_moss, .ref t_rain, .ref t_mossThen, .ref t_when, .int t_needsDone, .int t_seenMany, .ref t_sights, .int t_seedNow, .int t_keptWall, .int t_keptWeek, .int t_keptBreaths, .int t_keptSeen, .ref t_keptKinds, .ref t_keptDeep, .ref t_keptLeans, .ref t_keptMoss, .ref t_keptSights, .long t_hash])), (t_page, .inl (cA, 36, .inl c_t_page))] H := hP
  have hD : va_D A [(t_kinds, .inl (cA, 6, .inl c_t_kinds)), (t_deep, .inl (cA, 6, .inl c_t_deep)), (t_leans, .inl (cA, 6, .inl c_t_leans)), (t_moss, .inl (cA, 6, .inl c_t_moss)), (t_rain, .inl (cA, 8, .inl c_t_rain)), (t, .inr (7, [.ref t_page, .int t_pageMany, .int u1_t_end, .int t_clauses, .int t_rains, .int t_weekNext, .int t_breaths, .int t_wallsRead, .ref t_kinds, .ref t_deep, .ref t_leans, .ref t_moss, .ref t_rain, .ref t_mossThen, .ref t_when, .int t_needsDone, .int t_seenMany, .ref t_sights, .int t_seedNow, .int t_keptWall, .int t_keptWeek, .int t_keptBreaths, .int t_keptSeen, .ref t_keptKinds, .ref t_keptDeep, .ref t_keptLeans, .ref t_keptMoss, .ref t_keptSights, .long t_hash])), (t_page, .inl (cA, 36, .inl c_t_page))] := hD
  refine lv_istore_n (lv' := [(1, .int r1), (0, .ref t)]) hx hb dX7_wall_4 rfl hl (by decide) rfl (fun ls hl => ?_)
  refine lv_iload_n hx hb dX7_wall_5 rfl (lv_at hl 0 rfl) ?_
  refine lv_aload_n hx hb dX7_wall_6 rfl (lv_at hl 1 rfl) ?_
  refine va_get (D := D) (ci := 7) (v := .int t_pageMany) (C := RX7) (T := TX7) (N := 29) hx hb hts (fun _ h => List.mem_cons_of_mem _ (List.mem_append_right _ (h))) hown hK hP 5 rfl rfl 1 (by decide) (hts (.fieldLink RX7 62 "MossWallModel" "pageMany" "I") (List.mem_cons_of_mem _ (List.mem_append_left _ (List.mem_append_left _ (List.mem_of_getElem? (i := 0) rfl))))) (fun _ h9 => h9) rfl dX7_wall_7 ?_
  refine lv_icmp_lt (tgt := 33) hx hb dX7_wall_10 (by decide) (fun q2 => ?_) (fun q2 => ?_)
  · replace hM := mw_t hM q2
    refine lv_bipush (v := (-103)) hx hb dX7_wall_33 (by decide) ?_
    have hP := hP.sub (ws' := [(t, .inr (7, [.ref t_page, .int t_pageMany, .int u1_t_end, .int t_clauses, .int t_rains, .int t_weekNext, .int t_breaths, .int t_wallsRead, .ref t_kinds, .ref t_deep, .ref t_leans, .ref t_moss, .ref t_rain, .ref t_mossThen, .ref t_when, .int t_needsDone, .int t_seenMany, .ref t_sights, .int t_seedNow, .int t_keptWall, .int t_keptWeek, .int t_keptBreaths, .int t_keptSeen, .ref t_keptKinds, .ref t_keptDeep, .ref t_keptLeans, .ref t_keptMoss, .ref t_keptSights, .long t_hash])), (t_page, .inl (cA, 36, .inl c_t_page)), (t_kinds, .inl (cA, 6, .inl c_t_kinds)), (t_deep, .inl (cA, 6, .inl c_t_deep)), (t_leans, .inl (cA, 6, .inl c_t_leans)), (t_moss, .inl (cA, 6, .inl c_t_moss)), (t_rain, .inl (cA, 8, .inl c_t_rain))]) [5, 6, 0, 1, 2, 3, 4] rfl
    have hD := hD.sub (ws' := [(t, .inr (7, [.ref t_page, .int t_pageMany, .int u1_t_end, .int t_clauses, .int t_rains, .int t_weekNext, .int t_breaths, .int t_wallsRead, .ref t_kinds, .ref t_deep, .ref t_leans, .ref t_moss, .ref t_rain, .ref t_mossThen, .ref t_when, .int t_needsDone, .int t_seenMany, .ref t_sights, .int t_seedNow, .int t_keptWall, .int t_keptWeek, .int t_keptBreaths, .int t_keptSeen, .ref t_keptKinds, .ref t_keptDeep, .ref t_keptLeans, .ref t_keptMoss, .ref t_keptSights, .long t_hash])), (t_page, .inl (cA, 36, .inl c_t_page)), (t_kinds, .inl (cA, 6, .inl c_t_kinds)), (t_deep, .inl (cA, 6, .inl c_t_deep)), (t_leans, .inl (cA, 6, .inl c_t_leans)), (t_moss, .inl (cA, 6, .inl c_t_moss)), (t_rain, .inl (cA, 8, .inl c_t_rain))]) [5, 6, 0, 1, 2, 3, 4] (by decide) rfl
    obtain ⟨rfl, rfl, rfl, rfl, rfl, rfl, rfl, rfl, rfl, rfl, rfl, rfl, rfl, rfl⟩ := mw_o14 hM
    subst hQ
    exact W.iret hx hb hr (fun t ht hW => ⟨⟨_, (), rfl, rfl, by rw [ht]; exact hP, hD⟩, hS.F ht⟩) hS.2.2 dX7_wall_35
  · replace hM := mw_f hM q2
    refine lv_aload_n hx hb dX7_wall_13 rfl (lv_at hl 1 rfl) ?_
    refine va_get (D := D) (ci := 7) (v := .int u1_t_end) (C := RX7) (T := TX7) (N := 29) hx hb hts (fun _ h => List.mem_cons_of_mem _ (List.mem_append_right _ (h))) hown hK hP 5 rfl rfl 2 (by decide) (hts (.fieldLink RX7 75 "MossWallModel" "end" "I") (List.mem_cons_of_mem _ (List.mem_append_left _ (List.mem_append_left _ (List.mem_of_getElem? (i := 1) rfl))))) (fun _ h9 => h9) rfl dX7_wall_14 ?_
    refine lv_if_eq (tgt := 33) hx hb dX7_wall_17 (by decide) (fun q3 => ?_) (fun q3 => ?_)
    · replace hM := mw_t hM q3
      refine lv_bipush (v := (-103)) hx hb dX7_wall_33 (by decide) ?_
      have hP := hP.sub (ws' := [(t, .inr (7, [.ref t_page, .int t_pageMany, .int u1_t_end, .int t_clauses, .int t_rains, .int t_weekNext, .int t_breaths, .int t_wallsRead, .ref t_kinds, .ref t_deep, .ref t_leans, .ref t_moss, .ref t_rain, .ref t_mossThen, .ref t_when, .int t_needsDone, .int t_seenMany, .ref t_sights, .int t_seedNow, .int t_keptWall, .int t_keptWeek, .int t_keptBreaths, .int t_keptSeen, .ref t_keptKinds, .ref t_keptDeep, .ref t_keptLeans, .ref t_keptMoss, .ref t_keptSights, .long t_hash])), (t_page, .inl (cA, 36, .inl c_t_page)), (t_kinds, .inl (cA, 6, .inl c_t_kinds)), (t_deep, .inl (cA, 6, .inl c_t_deep)), (t_leans, .inl (cA, 6, .inl c_t_leans)), (t_moss, .inl (cA, 6, .inl c_t_moss)), (t_rain, .inl (cA, 8, .inl c_t_rain))]) [5, 6, 0, 1, 2, 3, 4] rfl
      have hD := hD.sub (ws' := [(t, .inr (7, [.ref t_page, .int t_pageMany, .int u1_t_end, .int t_clauses, .int t_rains, .int t_weekNext, .int t_breaths, .int t_wallsRead, .ref t_kinds, .ref t_deep, .ref t_leans, .ref t_moss, .ref t_rain, .ref t_mossThen, .ref t_when, .int t_needsDone, .int t_seenMany, .ref t_sights, .int t_seedNow, .int t_keptWall, .int t_keptWeek, .int t_keptBreaths, .int t_keptSeen, .ref t_keptKinds, .ref t_keptDeep, .ref t_keptLeans, .ref t_keptMoss, .ref t_keptSights, .long t_hash])), (t_page, .inl (cA, 36, .inl c_t_page)), (t_kinds, .inl (cA, 6, .inl c_t_kinds)), (t_deep, .inl (cA, 6, .inl c_t_deep)), (t_leans, .inl (cA, 6, .inl c_t_leans)), (t_moss, .inl (cA, 6, .inl c_t_moss)), (t_rain, .inl (cA, 8, .inl c_t_rain))]) [5, 6, 0, 1, 2, 3, 4] (by decide) rfl
      obtain ⟨rfl, rfl, rfl, rfl, rfl, rfl, rfl, rfl, rfl, rfl, rfl, rfl, rfl, rfl⟩ := mw_o14 hM
      subst hQ
      exact W.iret hx hb hr (fun t ht hW => ⟨⟨_, (), rfl, rfl, by rw [ht]; exact hP, hD⟩, hS.F ht⟩) hS.2.2 dX7_wall_35
    · replace hM := mw_f hM q3
      refine lv_aload_n hx hb dX7_wall_20 rfl (lv_at hl 1 rfl) ?_
      refine va_get (D := D) (ci := 7) (v := .int t_pageMany) (C := RX7) (T := TX7) (N := 29) hx hb hts (fun _ h => List.mem_cons_of_mem _ (List.mem_append_right _ (h))) hown hK hP 5 rfl rfl 1 (by decide) (hts (.fieldLink RX7 62 "MossWallModel" "pageMany" "I") (List.mem_cons_of_mem _ (List.mem_append_left _ (List.mem_append_left _ (List.mem_of_getElem? (i := 0) rfl))))) (fun _ h9 => h9) rfl dX7_wall_21 ?_
      refine lv_aload_n hx hb dX7_wall_24 rfl (lv_at hl 1 rfl) ?_
      refine va_get (D := D) (ci := 7) (v := .int u1_t_end) (C := RX7) (T := TX7) (N := 29) hx hb hts (fun _ h => List.mem_cons_of_mem _ (List.mem_append_right _ (h))) hown hK hP 5 rfl rfl 2 (by decide) (hts (.fieldLink RX7 75 "MossWallModel" "end" "I") (List.mem_cons_of_mem _ (List.mem_append_left _ (List.mem_append_left _ (List.mem_of_getElem? (i := 1) rfl))))) (fun _ h9 => h9) rfl dX7_wall_25 ?_
      refine lv_iconst (v := 1) hx hb dX7_wall_28 (by decide) ?_
      refine lv_iadd hx hb dX7_wall_29 ?_
      refine lv_icmp_ne (tgt := 36) hx hb dX7_wall_30 (by decide) (fun q4 => ?_) (fun q4 => ?_)
      · replace hM := mw_f hM q4
        refine lv_aload_n hx hb dX7_wall_36 rfl (lv_at hl 1 rfl) ?_
        refine lv_aload_n hx hb dX7_wall_37 rfl (lv_at hl 1 rfl) ?_
        refine va_get (D := D) (ci := 7) (v := .int u1_t_end) (C := RX7) (T := TX7) (N := 29) hx hb hts (fun _ h => List.mem_cons_of_mem _ (List.mem_append_right _ (h))) hown hK hP 5 rfl rfl 2 (by decide) (hts (.fieldLink RX7 75 "MossWallModel" "end" "I") (List.mem_cons_of_mem _ (List.mem_append_left _ (List.mem_append_left _ (List.mem_of_getElem? (i := 1) rfl))))) (fun _ h9 => h9) rfl dX7_wall_38 ?_
        refine lv_iconst (v := 1) hx hb dX7_wall_41 (by decide) ?_
        refine lv_iadd hx hb dX7_wall_42 ?_
        refine lv_iconst (v := 4) hx hb dX7_wall_43 (by decide) ?_
        refine lv_idiv hx hb dX7_wall_44 (by decide) ?_
        refine va_put (D := D) (ci := 7) (v := .int ((u1_t_end + 1) / 4)) (ty := .int) (C := RX7) (T := TX7) (N := 29) hx hb hts (fun _ h => List.mem_cons_of_mem _ (List.mem_append_right _ (h))) tyX7 tyX7_ok nmX7 hown hK hP hD hS 5 rfl rfl 3 (by decide) (hts (.fieldLink RX7 88 "MossWallModel" "clauses" "I") (List.mem_cons_of_mem _ (List.mem_append_left _ (List.mem_append_left _ (List.mem_of_getElem? (i := 2) rfl))))) (fun _ h9 => h9) rfl (by decide +kernel) rfl rfl (Nat.le_of_ble_eq_true rfl) dX7_wall_45 (fun H locs hP hD hS => ?_)
        have hP : va_P D vwCl [(t_kinds, .inl (cA, 6, .inl c_t_kinds)), (t_deep, .inl (cA, 6, .inl c_t_deep)), (t_leans, .inl (cA, 6, .inl c_t_leans)), (t_moss, .inl (cA, 6, .inl c_t_moss)), (t_rain, .inl (cA, 8, .inl c_t_rain)), (t, .inr (7, [.ref t_page, .int t_pageMany, .int u1_t_end, .int ((u1_t_end + 1) / 4), .int t_rains, .int t_weekNext, .int t_breaths, .int t_wallsRead, .ref t_kinds, .ref t_deep, .ref t_leans, .ref t_moss, .ref t_rain, .ref t_mossThen, .ref t_when, .int t_needsDone, .int t_seenMany, .ref t_sights, .int t_seedNow, .int t_keptWall, .int t_keptWeek, .int t_keptBreaths, .int t_keptSeen, .ref t_keptKinds, .ref t_keptDeep, .ref t_keptLeans, .ref t_keptMoss, .ref t_keptSights, .long t_hash])), (t_page, .inl (cA, 36, .inl c_t_page))] H := hP
        have hD : va_D A [(t_kinds, .inl (cA, 6, .inl c_t_kinds)), (t_deep, .inl (cA, 6, .inl c_t_deep)), (t_leans, .inl (cA, 6, .inl c_t_leans)), (t_moss, .inl (cA, 6, .inl c_t_moss)), (t_rain, .inl (cA, 8, .inl c_t_rain)), (t, .inr (7, [.ref t_page, .int t_pageMany, .int u1_t_end, .int ((u1_t_end + 1) / 4), .int t_rains, .int t_weekNext, .int t_breaths, .int t_wallsRead, .ref t_kinds, .ref t_deep, .ref t_leans, .ref t_moss, .ref t_rain, .ref t_mossThen, .ref t_when, .int t_needsDone, .int t_seenMany, .ref t_sights, .int t_seedNow, .int t_keptWall, .int t_keptWeek, .int t_keptBreaths, .int t_keptSeen, .ref t_keptKinds, .ref t_keptDeep, .ref t_keptLeans, .ref t_keptMoss, .ref t_keptSights, .long t_hash])), (t_page, .inl (cA, 36, .inl c_t_page))] := hD
        refine lv_aload_n hx hb dX7_wall_48 rfl (lv_at hl 1 rfl) ?_
        refine lv_aload_n hx hb dX7_wall_49 rfl (lv_at hl 1 rfl) ?_
        refine va_get (D := D) (ci := 7) (v := .int t_pageMany) (C := RX7) (T := TX7) (N := 29) hx hb hts (fun _ h => List.mem_cons_of_mem _ (List.mem_append_right _ (h))) hown hK hP 5 rfl rfl 1 (by decide) (hts (.fieldLink RX7 62 "MossWallModel" "pageMany" "I") (List.mem_cons_of_mem _ (List.mem_append_left _ (List.mem_append_left _ (List.mem_of_getElem? (i := 0) rfl))))) (fun _ h9 => h9) rfl dX7_wall_50 ?_
        refine lv_aload_n hx hb dX7_wall_53 rfl (lv_at hl 1 rfl) ?_
        refine va_get (D := D) (ci := 7) (v := .int u1_t_end) (C := RX7) (T := TX7) (N := 29) hx hb hts (fun _ h => List.mem_cons_of_mem _ (List.mem_append_right _ (h))) hown hK hP 5 rfl rfl 2 (by decide) (hts (.fieldLink RX7 75 "MossWallModel" "end" "I") (List.mem_cons_of_mem _ (List.mem_append_left _ (List.mem_append_left _ (List.mem_of_getElem? (i := 1) rfl))))) (fun _ h9 => h9) rfl dX7_wall_54 ?_
        refine lv_isub hx hb dX7_wall_57 ?_
        refine lv_iconst (v := 1) hx hb dX7_wall_58 (by decide) ?_
        refine lv_isub hx hb dX7_wall_59 ?_
        refine va_put (D := D) (ci := 7) (v := .int ((t_pageMany - u1_t_end) - 1)) (ty := .int) (C := RX7) (T := TX7) (N := 29) hx hb hts (fun _ h => List.mem_cons_of_mem _ (List.mem_append_right _ (h))) tyX7 tyX7_ok nmX7 hown hK hP hD hS 5 rfl rfl 4 (by decide) (hts (.fieldLink RX7 91 "MossWallModel" "rains" "I") (List.mem_cons_of_mem _ (List.mem_append_left _ (List.mem_append_left _ (List.mem_of_getElem? (i := 3) rfl))))) (fun _ h9 => h9) rfl (by decide +kernel) rfl rfl (Nat.le_of_ble_eq_true rfl) dX7_wall_60 (fun H locs hP hD hS => ?_)
        have hP : va_P D vwCl [(t_kinds, .inl (cA, 6, .inl c_t_kinds)), (t_deep, .inl (cA, 6, .inl c_t_deep)), (t_leans, .inl (cA, 6, .inl c_t_leans)), (t_moss, .inl (cA, 6, .inl c_t_moss)), (t_rain, .inl (cA, 8, .inl c_t_rain)), (t, .inr (7, [.ref t_page, .int t_pageMany, .int u1_t_end, .int ((u1_t_end + 1) / 4), .int ((t_pageMany - u1_t_end) - 1), .int t_weekNext, .int t_breaths, .int t_wallsRead, .ref t_kinds, .ref t_deep, .ref t_leans, .ref t_moss, .ref t_rain, .ref t_mossThen, .ref t_when, .int t_needsDone, .int t_seenMany, .ref t_sights, .int t_seedNow, .int t_keptWall, .int t_keptWeek, .int t_keptBreaths, .int t_keptSeen, .ref t_keptKinds, .ref t_keptDeep, .ref t_keptLeans, .ref t_keptMoss, .ref t_keptSights, .long t_hash])), (t_page, .inl (cA, 36, .inl c_t_page))] H := hP
        have hD : va_D A [(t_kinds, .inl (cA, 6, .inl c_t_kinds)), (t_deep, .inl (cA, 6, .inl c_t_deep)), (t_leans, .inl (cA, 6, .inl c_t_leans)), (t_moss, .inl (cA, 6, .inl c_t_moss)), (t_rain, .inl (cA, 8, .inl c_t_rain)), (t, .inr (7, [.ref t_page, .int t_pageMany, .int u1_t_end, .int ((u1_t_end + 1) / 4), .int ((t_pageMany - u1_t_end) - 1), .int t_weekNext, .int t_breaths, .int t_wallsRead, .ref t_kinds, .ref t_deep, .ref t_leans, .ref t_moss, .ref t_rain, .ref t_mossThen, .ref t_when, .int t_needsDone, .int t_seenMany, .ref t_sights, .int t_seedNow, .int t_keptWall, .int t_keptWeek, .int t_keptBreaths, .int t_keptSeen, .ref t_keptKinds, .ref t_keptDeep, .ref t_keptLeans, .ref t_keptMoss, .ref t_keptSights, .long t_hash])), (t_page, .inl (cA, 36, .inl c_t_page))] := hD
        refine lv_iconst (v := 0) hx hb dX7_wall_63 (by decide) ?_
        refine lv_istore_n (lv' := [(2, .int 0), (1, .int r1), (0, .ref t)]) hx hb dX7_wall_64 rfl hl (by decide) rfl (fun ls hl => ?_)
        obtain ⟨k1_160, jk1_160⟩ : ∃ k : Int32 → (Nat → Int32) → (Nat → Int32) → (Nat → Int32) → (Nat → Int32) → Option (Int32 × Int32 × Int32 × Int32 × Int32 × Int32 × Int32 × Int32 × Int32 × (Nat → Int32) × (Nat → Int32) × (Nat → Int32) × (Nat → Int32) × (Nat → Int32)), k = fun (x2_1 : Int32) (y1_t_kinds : Nat → Int32) (y1_t_deep : Nat → Int32) (y1_t_leans : Nat → Int32) (y1_t_moss : Nat → Int32) => mX7_wall_L2 t_pageMany c_t_page u1_t_end (fun (x2_2 : Int32) (y2_t_rain : Nat → Int32) => some ((u1_t_end + 1) / 4, 0, u1_t_end, (u1_t_end + 1) / 4, (t_pageMany - u1_t_end) - 1, 0, 0, t_wallsRead + 1, 0, y1_t_kinds, y1_t_deep, y1_t_leans, y1_t_moss, y2_t_rain)) 300 0 c_t_rain := ⟨_, rfl⟩
        have Ek1_160 : ∀ (x2_1 : Int32) (y1_t_kinds : Nat → Int32) (y1_t_deep : Nat → Int32) (y1_t_leans : Nat → Int32) (y1_t_moss : Nat → Int32) (H : Heap) (locs : List Loc) (ls : Array Slot), va_P D vwCl [(t_kinds, .inl (cA, 6, .inl y1_t_kinds)), (t_deep, .inl (cA, 6, .inl y1_t_deep)), (t_leans, .inl (cA, 6, .inl y1_t_leans)), (t_moss, .inl (cA, 6, .inl y1_t_moss)), (t_rain, .inl (cA, 8, .inl c_t_rain)), (t, .inr (7, [.ref t_page, .int t_pageMany, .int u1_t_end, .int ((u1_t_end + 1) / 4), .int ((t_pageMany - u1_t_end) - 1), .int t_weekNext, .int t_breaths, .int t_wallsRead, .ref t_kinds, .ref t_deep, .ref t_leans, .ref t_moss, .ref t_rain, .ref t_mossThen, .ref t_when, .int t_needsDone, .int t_seenMany, .ref t_sights, .int t_seedNow, .int t_keptWall, .int t_keptWeek, .int t_keptBreaths, .int t_keptSeen, .ref t_keptKinds, .ref t_keptDeep, .ref t_keptLeans, .ref t_keptMoss, .ref t_keptSights, .long t_hash])), (t_page, .inl (cA, 36, .inl c_t_page))] H → va_D A [(t_kinds, .inl (cA, 6, .inl y1_t_kinds)), (t_deep, .inl (cA, 6, .inl y1_t_deep)), (t_leans, .inl (cA, 6, .inl y1_t_leans)), (t_moss, .inl (cA, 6, .inl y1_t_moss)), (t_rain, .inl (cA, 8, .inl c_t_rain)), (t, .inr (7, [.ref t_page, .int t_pageMany, .int u1_t_end, .int ((u1_t_end + 1) / 4), .int ((t_pageMany - u1_t_end) - 1), .int t_weekNext, .int t_breaths, .int t_wallsRead, .ref t_kinds, .ref t_deep, .ref t_leans, .ref t_moss, .ref t_rain, .ref t_mossThen, .ref t_when, .int t_needsDone, .int t_seenMany, .ref t_sights, .int t_seedNow, .int t_keptWall, .int t_keptWeek, .int t_keptBreaths, .int t_keptSeen, .ref t_keptKinds, .ref t_keptDeep, .ref t_keptLeans, .ref t_keptMoss, .ref t_keptSights, .long t_hash])), (t_page, .inl (cA, 36, .inl c_t_page))] → va_S A s.heap H locs → lv_has ls 3 [(2, .int x2_1), (1, .int r1), (0, .ref t)] → k1_160 x2_1 y1_t_kinds y1_t_deep y1_t_leans y1_t_moss = some (r, o_t_pageMany, o_t_end, o_t_clauses, o_t_rains, o_t_weekNext, o_t_breaths, o_t_wallsRead, o_t_seenMany, o_c_t_kinds, o_c_t_deep, o_c_t_leans, o_c_t_moss, o_c_t_rain) → W p l e (headSpec wsX7_wall rmX7_wall).room s m (([.ref t] : List Value).toArray) below meth c H locs 0 0 Q (F0 m 160 ls []) := by
            intro x2_1 y1_t_kinds y1_t_deep y1_t_leans y1_t_moss H locs ls hP hD hS hl hM
            rw [jk1_160] at hM
            refine lv_iconst (v := 0) hx hb dX7_wall_160 (by decide) ?_
            refine lv_istore_n (lv' := [(2, .int 0), (1, .int r1), (0, .ref t)]) hx hb dX7_wall_161 rfl hl (by decide) rfl (fun ls hl => ?_)
            obtain ⟨k2_198, jk2_198⟩ : ∃ k : Int32 → (Nat → Int32) → Option (Int32 × Int32 × Int32 × Int32 × Int32 × Int32 × Int32 × Int32 × Int32 × (Nat → Int32) × (Nat → Int32) × (Nat → Int32) × (Nat → Int32) × (Nat → Int32)), k = fun (x2_2 : Int32) (y2_t_rain : Nat → Int32) => some ((u1_t_end + 1) / 4, 0, u1_t_end, (u1_t_end + 1) / 4, (t_pageMany - u1_t_end) - 1, 0, 0, t_wallsRead + 1, 0, y1_t_kinds, y1_t_deep, y1_t_leans, y1_t_moss, y2_t_rain) := ⟨_, rfl⟩
            have Ek2_198 : ∀ (x2_2 : Int32) (y2_t_rain : Nat → Int32) (H : Heap) (locs : List Loc) (ls : Array Slot), va_P D vwCl [(t_kinds, .inl (cA, 6, .inl y1_t_kinds)), (t_deep, .inl (cA, 6, .inl y1_t_deep)), (t_leans, .inl (cA, 6, .inl y1_t_leans)), (t_moss, .inl (cA, 6, .inl y1_t_moss)), (t_rain, .inl (cA, 8, .inl y2_t_rain)), (t, .inr (7, [.ref t_page, .int t_pageMany, .int u1_t_end, .int ((u1_t_end + 1) / 4), .int ((t_pageMany - u1_t_end) - 1), .int t_weekNext, .int t_breaths, .int t_wallsRead, .ref t_kinds, .ref t_deep, .ref t_leans, .ref t_moss, .ref t_rain, .ref t_mossThen, .ref t_when, .int t_needsDone, .int t_seenMany, .ref t_sights, .int t_seedNow, .int t_keptWall, .int t_keptWeek, .int t_keptBreaths, .int t_keptSeen, .ref t_keptKinds, .ref t_keptDeep, .ref t_keptLeans, .ref t_keptMoss, .ref t_keptSights, .long t_hash])), (t_page, .inl (cA, 36, .inl c_t_page))] H → va_D A [(t_kinds, .inl (cA, 6, .inl y1_t_kinds)), (t_deep, .inl (cA, 6, .inl y1_t_deep)), (t_leans, .inl (cA, 6, .inl y1_t_leans)), (t_moss, .inl (cA, 6, .inl y1_t_moss)), (t_rain, .inl (cA, 8, .inl y2_t_rain)), (t, .inr (7, [.ref t_page, .int t_pageMany, .int u1_t_end, .int ((u1_t_end + 1) / 4), .int ((t_pageMany - u1_t_end) - 1), .int t_weekNext, .int t_breaths, .int t_wallsRead, .ref t_kinds, .ref t_deep, .ref t_leans, .ref t_moss, .ref t_rain, .ref t_mossThen, .ref t_when, .int t_needsDone, .int t_seenMany, .ref t_sights, .int t_seedNow, .int t_keptWall, .int t_keptWeek, .int t_keptBreaths, .int t_keptSeen, .ref t_keptKinds, .ref t_keptDeep, .ref t_keptLeans, .ref t_keptMoss, .ref t_keptSights, .long t_hash])), (t_page, .inl (cA, 36, .inl c_t_page))] → va_S A s.heap H locs → lv_has ls 3 [(2, .int x2_2), (1, .int r1), (0, .ref t)] → k2_198 x2_2 y2_t_rain = some (r, o_t_pageMany, o_t_end, o_t_clauses, o_t_rains, o_t_weekNext, o_t_breaths, o_t_wallsRead, o_t_seenMany, o_c_t_kinds, o_c_t_deep, o_c_t_leans, o_c_t_moss, o_c_t_rain) → W p l e (headSpec wsX7_wall rmX7_wall).room s m (([.ref t] : List Value).toArray) below meth c H locs 0 0 Q (F0 m 198 ls []) := by
                intro x2_2 y2_t_rain H locs ls hP hD hS hl hM
                rw [jk2_198] at hM
                refine lv_aload_n hx hb dX7_wall_198 rfl (lv_at hl 2 rfl) ?_
                refine lv_iconst (v := 0) hx hb dX7_wall_199 (by decide) ?_
                refine va_put (D := D) (ci := 7) (v := .int 0) (ty := .int) (C := RX7) (T := TX7) (N := 29) hx hb hts (fun _ h => List.mem_cons_of_mem _ (List.mem_append_right _ (h))) tyX7 tyX7_ok nmX7 hown hK hP hD hS 5 rfl rfl 5 (by decide) (hts (.fieldLink RX7 94 "MossWallModel" "weekNext" "I") (List.mem_cons_of_mem _ (List.mem_append_left _ (List.mem_append_left _ (List.mem_of_getElem? (i := 10) rfl))))) (fun _ h9 => h9) rfl (by decide +kernel) rfl rfl (Nat.le_of_ble_eq_true rfl) dX7_wall_200 (fun H locs hP hD hS => ?_)
                have hP : va_P D vwCl [(t_kinds, .inl (cA, 6, .inl y1_t_kinds)), (t_deep, .inl (cA, 6, .inl y1_t_deep)), (t_leans, .inl (cA, 6, .inl y1_t_leans)), (t_moss, .inl (cA, 6, .inl y1_t_moss)), (t_rain, .inl (cA, 8, .inl y2_t_rain)), (t, .inr (7, [.ref t_page, .int t_pageMany, .int u1_t_end, .int ((u1_t_end + 1) / 4), .int ((t_pageMany - u1_t_end) - 1), .int 0, .int t_breaths, .int t_wallsRead, .ref t_kinds, .ref t_deep, .ref t_leans, .ref t_moss, .ref t_rain, .ref t_mossThen, .ref t_when, .int t_needsDone, .int t_seenMany, .ref t_sights, .int t_seedNow, .int t_keptWall, .int t_keptWeek, .int t_keptBreaths, .int t_keptSeen, .ref t_keptKinds, .ref t_keptDeep, .ref t_keptLeans, .ref t_keptMoss, .ref t_keptSights, .long t_hash])), (t_page, .inl (cA, 36, .inl c_t_page))] H := hP
                have hD : va_D A [(t_kinds, .inl (cA, 6, .inl y1_t_kinds)), (t_deep, .inl (cA, 6, .inl y1_t_deep)), (t_leans, .inl (cA, 6, .inl y1_t_leans)), (t_moss, .inl (cA, 6, .inl y1_t_moss)), (t_rain, .inl (cA, 8, .inl y2_t_rain)), (t, .inr (7, [.ref t_page, .int t_pageMany, .int u1_t_end, .int ((u1_t_end + 1) / 4), .int ((t_pageMany - u1_t_end) - 1), .int 0, .int t_breaths, .int t_wallsRead, .ref t_kinds, .ref t_deep, .ref t_leans, .ref t_moss, .ref t_rain, .ref t_mossThen, .ref t_when, .int t_needsDone, .int t_seenMany, .ref t_sights, .int t_seedNow, .int t_keptWall, .int t_keptWeek, .int t_keptBreaths, .int t_keptSeen, .ref t_keptKinds, .ref t_keptDeep, .ref t_keptLeans, .ref t_keptMoss, .ref t_keptSights, .long t_hash])), (t_page, .inl (cA, 36, .inl c_t_page))] := hD
                refine lv_aload_n hx hb dX7_wall_203 rfl (lv_at hl 2 rfl) ?_
                refine lv_iconst (v := 0) hx hb dX7_wall_204 (by decide) ?_
                refine va_put (D := D) (ci := 7) (v := .int 0) (ty := .int) (C := RX7) (T := TX7) (N := 29) hx hb hts (fun _ h => List.mem_cons_of_mem _ (List.mem_append_right _ (h))) tyX7 tyX7_ok nmX7 hown hK hP hD hS 5 rfl rfl 6 (by decide) (hts (.fieldLink RX7 97 "MossWallModel" "breaths" "I") (List.mem_cons_of_mem _ (List.mem_append_left _ (List.mem_append_left _ (List.mem_of_getElem? (i := 11) rfl))))) (fun _ h9 => h9) rfl (by decide +kernel) rfl rfl (Nat.le_of_ble_eq_true rfl) dX7_wall_205 (fun H locs hP hD hS => ?_)
                have hP : va_P D vwCl [(t_kinds, .inl (cA, 6, .inl y1_t_kinds)), (t_deep, .inl (cA, 6, .inl y1_t_deep)), (t_leans, .inl (cA, 6, .inl y1_t_leans)), (t_moss, .inl (cA, 6, .inl y1_t_moss)), (t_rain, .inl (cA, 8, .inl y2_t_rain)), (t, .inr (7, [.ref t_page, .int t_pageMany, .int u1_t_end, .int ((u1_t_end + 1) / 4), .int ((t_pageMany - u1_t_end) - 1), .int 0, .int 0, .int t_wallsRead, .ref t_kinds, .ref t_deep, .ref t_leans, .ref t_moss, .ref t_rain, .ref t_mossThen, .ref t_when, .int t_needsDone, .int t_seenMany, .ref t_sights, .int t_seedNow, .int t_keptWall, .int t_keptWeek, .int t_keptBreaths, .int t_keptSeen, .ref t_keptKinds, .ref t_keptDeep, .ref t_keptLeans, .ref t_keptMoss, .ref t_keptSights, .long t_hash])), (t_page, .inl (cA, 36, .inl c_t_page))] H := hP
                have hD : va_D A [(t_kinds, .inl (cA, 6, .inl y1_t_kinds)), (t_deep, .inl (cA, 6, .inl y1_t_deep)), (t_leans, .inl (cA, 6, .inl y1_t_leans)), (t_moss, .inl (cA, 6, .inl y1_t_moss)), (t_rain, .inl (cA, 8, .inl y2_t_rain)), (t, .inr (7, [.ref t_page, .int t_pageMany, .int u1_t_end, .int ((u1_t_end + 1) / 4), .int ((t_pageMany - u1_t_end) - 1), .int 0, .int 0, .int t_wallsRead, .ref t_kinds, .ref t_deep, .ref t_leans, .ref t_moss, .ref t_rain, .ref t_mossThen, .ref t_when, .int t_needsDone, .int t_seenMany, .ref t_sights, .int t_seedNow, .int t_keptWall, .int t_keptWeek, .int t_keptBreaths, .int t_keptSeen, .ref t_keptKinds, .ref t_keptDeep, .ref t_keptLeans, .ref t_keptMoss, .ref t_keptSights, .long t_hash])), (t_page, .inl (cA, 36, .inl c_t_page))] := hD
                refine lv_aload_n hx hb dX7_wall_208 rfl (lv_at hl 2 rfl) ?_
                refine lv_iconst (v := 0) hx hb dX7_wall_209 (by decide) ?_
                refine va_put (D := D) (ci := 7) (v := .int 0) (ty := .int) (C := RX7) (T := TX7) (N := 29) hx hb hts (fun _ h => List.mem_cons_of_mem _ (List.mem_append_right _ (h))) tyX7 tyX7_ok nmX7 hown hK hP hD hS 5 rfl rfl 16 (by decide) (hts (.fieldLink RX7 100 "MossWallModel" "seenMany" "I") (List.mem_cons_of_mem _ (List.mem_append_left _ (List.mem_append_left _ (List.mem_of_getElem? (i := 12) rfl))))) (fun _ h9 => h9) rfl (by decide +kernel) rfl rfl (Nat.le_of_ble_eq_true rfl) dX7_wall_210 (fun H locs hP hD hS => ?_)
                have hP : va_P D vwCl [(t_kinds, .inl (cA, 6, .inl y1_t_kinds)), (t_deep, .inl (cA, 6, .inl y1_t_deep)), (t_leans, .inl (cA, 6, .inl y1_t_leans)), (t_moss, .inl (cA, 6, .inl y1_t_moss)), (t_rain, .inl (cA, 8, .inl y2_t_rain)), (t, .inr (7, [.ref t_page, .int t_pageMany, .int u1_t_end, .int ((u1_t_end + 1) / 4), .int ((t_pageMany - u1_t_end) - 1), .int 0, .int 0, .int t_wallsRead, .ref t_kinds, .ref t_deep, .ref t_leans, .ref t_moss, .ref t_rain, .ref t_mossThen, .ref t_when, .int t_needsDone, .int 0, .ref t_sights, .int t_seedNow, .int t_keptWall, .int t_keptWeek, .int t_keptBreaths, .int t_keptSeen, .ref t_keptKinds, .ref t_keptDeep, .ref t_keptLeans, .ref t_keptMoss, .ref t_keptSights, .long t_hash])), (t_page, .inl (cA, 36, .inl c_t_page))] H := hP
                have hD : va_D A [(t_kinds, .inl (cA, 6, .inl y1_t_kinds)), (t_deep, .inl (cA, 6, .inl y1_t_deep)), (t_leans, .inl (cA, 6, .inl y1_t_leans)), (t_moss, .inl (cA, 6, .inl y1_t_moss)), (t_rain, .inl (cA, 8, .inl y2_t_rain)), (t, .inr (7, [.ref t_page, .int t_pageMany, .int u1_t_end, .int ((u1_t_end + 1) / 4), .int ((t_pageMany - u1_t_end) - 1), .int 0, .int 0, .int t_wallsRead, .ref t_kinds, .ref t_deep, .ref t_leans, .ref t_moss, .ref t_rain, .ref t_mossThen, .ref t_when, .int t_needsDone, .int 0, .ref t_sights, .int t_seedNow, .int t_keptWall, .int t_keptWeek, .int t_keptBreaths, .int t_keptSeen, .ref t_keptKinds, .ref t_keptDeep, .ref t_keptLeans, .ref t_keptMoss, .ref t_keptSights, .long t_hash])), (t_page, .inl (cA, 36, .inl c_t_page))] := hD
                refine lv_aload_n hx hb dX7_wall_213 rfl (lv_at hl 2 rfl) ?_
                refine lv_dup hx hb dX7_wall_214 rfl ?_
                refine va_get (D := D) (ci := 7) (v := .int t_wallsRead) (C := RX7) (T := TX7) (N := 29) hx hb hts (fun _ h => List.mem_cons_of_mem _ (List.mem_append_right _ (h))) hown hK hP 5 rfl rfl 7 (by decide) (hts (.fieldLink RX7 103 "MossWallModel" "wallsRead" "I") (List.mem_cons_of_mem _ (List.mem_append_left _ (List.mem_append_left _ (List.mem_of_getElem? (i := 13) rfl))))) (fun _ h9 => h9) rfl dX7_wall_215 ?_
                refine lv_iconst (v := 1) hx hb dX7_wall_218 (by decide) ?_
                refine lv_iadd hx hb dX7_wall_219 ?_
                refine va_put (D := D) (ci := 7) (v := .int (t_wallsRead + 1)) (ty := .int) (C := RX7) (T := TX7) (N := 29) hx hb hts (fun _ h => List.mem_cons_of_mem _ (List.mem_append_right _ (h))) tyX7 tyX7_ok nmX7 hown hK hP hD hS 5 rfl rfl 7 (by decide) (hts (.fieldLink RX7 103 "MossWallModel" "wallsRead" "I") (List.mem_cons_of_mem _ (List.mem_append_left _ (List.mem_append_left _ (List.mem_of_getElem? (i := 13) rfl))))) (fun _ h9 => h9) rfl (by decide +kernel) rfl rfl (Nat.le_of_ble_eq_true rfl) dX7_wall_220 (fun H locs hP hD hS => ?_)
                have hP : va_P D vwCl [(t_kinds, .inl (cA, 6, .inl y1_t_kinds)), (t_deep, .inl (cA, 6, .inl y1_t_deep)), (t_leans, .inl (cA, 6, .inl y1_t_leans)), (t_moss, .inl (cA, 6, .inl y1_t_moss)), (t_rain, .inl (cA, 8, .inl y2_t_rain)), (t, .inr (7, [.ref t_page, .int t_pageMany, .int u1_t_end, .int ((u1_t_end + 1) / 4), .int ((t_pageMany - u1_t_end) - 1), .int 0, .int 0, .int (t_wallsRead + 1), .ref t_kinds, .ref t_deep, .ref t_leans, .ref t_moss, .ref t_rain, .ref t_mossThen, .ref t_when, .int t_needsDone, .int 0, .ref t_sights, .int t_seedNow, .int t_keptWall, .int t_keptWeek, .int t_keptBreaths, .int t_keptSeen, .ref t_keptKinds, .ref t_keptDeep, .ref t_keptLeans, .ref t_keptMoss, .ref t_keptSights, .long t_hash])), (t_page, .inl (cA, 36, .inl c_t_page))] H := hP
                have hD : va_D A [(t_kinds, .inl (cA, 6, .inl y1_t_kinds)), (t_deep, .inl (cA, 6, .inl y1_t_deep)), (t_leans, .inl (cA, 6, .inl y1_t_leans)), (t_moss, .inl (cA, 6, .inl y1_t_moss)), (t_rain, .inl (cA, 8, .inl y2_t_rain)), (t, .inr (7, [.ref t_page, .int t_pageMany, .int u1_t_end, .int ((u1_t_end + 1) / 4), .int ((t_pageMany - u1_t_end) - 1), .int 0, .int 0, .int (t_wallsRead + 1), .ref t_kinds, .ref t_deep, .ref t_leans, .ref t_moss, .ref t_rain, .ref t_mossThen, .ref t_when, .int t_needsDone, .int 0, .ref t_sights, .int t_seedNow, .int t_keptWall, .int t_keptWeek, .int t_keptBreaths, .int t_keptSeen, .ref t_keptKinds, .ref t_keptDeep, .ref t_keptLeans, .ref t_keptMoss, .ref t_keptSights, .long t_hash])), (t_page, .inl (cA, 36, .inl c_t_page))] := hD
                refine lv_aload_n hx hb dX7_wall_223 rfl (lv_at hl 2 rfl) ?_
                refine lv_iconst (v := 0) hx hb dX7_wall_224 (by decide) ?_
                refine va_put (D := D) (ci := 7) (v := .int 0) (ty := .int) (C := RX7) (T := TX7) (N := 29) hx hb hts (fun _ h => List.mem_cons_of_mem _ (List.mem_append_right _ (h))) tyX7 tyX7_ok nmX7 hown hK hP hD hS 5 rfl rfl 1 (by decide) (hts (.fieldLink RX7 62 "MossWallModel" "pageMany" "I") (List.mem_cons_of_mem _ (List.mem_append_left _ (List.mem_append_left _ (List.mem_of_getElem? (i := 0) rfl))))) (fun _ h9 => h9) rfl (by decide +kernel) rfl rfl (Nat.le_of_ble_eq_true rfl) dX7_wall_225 (fun H locs hP hD hS => ?_)
                have hP : va_P D vwCl [(t_kinds, .inl (cA, 6, .inl y1_t_kinds)), (t_deep, .inl (cA, 6, .inl y1_t_deep)), (t_leans, .inl (cA, 6, .inl y1_t_leans)), (t_moss, .inl (cA, 6, .inl y1_t_moss)), (t_rain, .inl (cA, 8, .inl y2_t_rain)), (t, .inr (7, [.ref t_page, .int 0, .int u1_t_end, .int ((u1_t_end + 1) / 4), .int ((t_pageMany - u1_t_end) - 1), .int 0, .int 0, .int (t_wallsRead + 1), .ref t_kinds, .ref t_deep, .ref t_leans, .ref t_moss, .ref t_rain, .ref t_mossThen, .ref t_when, .int t_needsDone, .int 0, .ref t_sights, .int t_seedNow, .int t_keptWall, .int t_keptWeek, .int t_keptBreaths, .int t_keptSeen, .ref t_keptKinds, .ref t_keptDeep, .ref t_keptLeans, .ref t_keptMoss, .ref t_keptSights, .long t_hash])), (t_page, .inl (cA, 36, .inl c_t_page))] H := hP
                have hD : va_D A [(t_kinds, .inl (cA, 6, .inl y1_t_kinds)), (t_deep, .inl (cA, 6, .inl y1_t_deep)), (t_leans, .inl (cA, 6, .inl y1_t_leans)), (t_moss, .inl (cA, 6, .inl y1_t_moss)), (t_rain, .inl (cA, 8, .inl y2_t_rain)), (t, .inr (7, [.ref t_page, .int 0, .int u1_t_end, .int ((u1_t_end + 1) / 4), .int ((t_pageMany - u1_t_end) - 1), .int 0, .int 0, .int (t_wallsRead + 1), .ref t_kinds, .ref t_deep, .ref t_leans, .ref t_moss, .ref t_rain, .ref t_mossThen, .ref t_when, .int t_needsDone, .int 0, .ref t_sights, .int t_seedNow, .int t_keptWall, .int t_keptWeek, .int t_keptBreaths, .int t_keptSeen, .ref t_keptKinds, .ref t_keptDeep, .ref t_keptLeans, .ref t_keptMoss, .ref t_keptSights, .long t_hash])), (t_page, .inl (cA, 36, .inl c_t_page))] := hD
                refine lv_aload_n hx hb dX7_wall_228 rfl (lv_at hl 2 rfl) ?_
                refine va_get (D := D) (ci := 7) (v := .int ((u1_t_end + 1) / 4)) (C := RX7) (T := TX7) (N := 29) hx hb hts (fun _ h => List.mem_cons_of_mem _ (List.mem_append_right _ (h))) hown hK hP 5 rfl rfl 3 (by decide) (hts (.fieldLink RX7 88 "MossWallModel" "clauses" "I") (List.mem_cons_of_mem _ (List.mem_append_left _ (List.mem_append_left _ (List.mem_of_getElem? (i := 2) rfl))))) (fun _ h9 => h9) rfl dX7_wall_229 ?_
                have hP := hP.sub (ws' := [(t, .inr (7, [.ref t_page, .int 0, .int u1_t_end, .int ((u1_t_end + 1) / 4), .int ((t_pageMany - u1_t_end) - 1), .int 0, .int 0, .int (t_wallsRead + 1), .ref t_kinds, .ref t_deep, .ref t_leans, .ref t_moss, .ref t_rain, .ref t_mossThen, .ref t_when, .int t_needsDone, .int 0, .ref t_sights, .int t_seedNow, .int t_keptWall, .int t_keptWeek, .int t_keptBreaths, .int t_keptSeen, .ref t_keptKinds, .ref t_keptDeep, .ref t_keptLeans, .ref t_keptMoss, .ref t_keptSights, .long t_hash])), (t_page, .inl (cA, 36, .inl c_t_page)), (t_kinds, .inl (cA, 6, .inl y1_t_kinds)), (t_deep, .inl (cA, 6, .inl y1_t_deep)), (t_leans, .inl (cA, 6, .inl y1_t_leans)), (t_moss, .inl (cA, 6, .inl y1_t_moss)), (t_rain, .inl (cA, 8, .inl y2_t_rain))]) [5, 6, 0, 1, 2, 3, 4] rfl
                have hD := hD.sub (ws' := [(t, .inr (7, [.ref t_page, .int 0, .int u1_t_end, .int ((u1_t_end + 1) / 4), .int ((t_pageMany - u1_t_end) - 1), .int 0, .int 0, .int (t_wallsRead + 1), .ref t_kinds, .ref t_deep, .ref t_leans, .ref t_moss, .ref t_rain, .ref t_mossThen, .ref t_when, .int t_needsDone, .int 0, .ref t_sights, .int t_seedNow, .int t_keptWall, .int t_keptWeek, .int t_keptBreaths, .int t_keptSeen, .ref t_keptKinds, .ref t_keptDeep, .ref t_keptLeans, .ref t_keptMoss, .ref t_keptSights, .long t_hash])), (t_page, .inl (cA, 36, .inl c_t_page)), (t_kinds, .inl (cA, 6, .inl y1_t_kinds)), (t_deep, .inl (cA, 6, .inl y1_t_deep)), (t_leans, .inl (cA, 6, .inl y1_t_leans)), (t_moss, .inl (cA, 6, .inl y1_t_moss)), (t_rain, .inl (cA, 8, .inl y2_t_rain))]) [5, 6, 0, 1, 2, 3, 4] (by decide) rfl
                obtain ⟨rfl, rfl, rfl, rfl, rfl, rfl, rfl, rfl, rfl, rfl, rfl, rfl, rfl, rfl⟩ := mw_o14 hM
                subst hQ
                exact W.iret hx hb hr (fun t ht hW => ⟨⟨_, (), rfl, rfl, by rw [ht]; exact hP, hD⟩, hS.F ht⟩) hS.2.2 dX7_wall_232
            have L2 : ∀ (n2 : Nat) (x2_2 : Int32) (y2_t_rain : Nat → Int32) (H : Heap) (locs : List Loc) (ls : Array Slot), va_P D vwCl [(t_kinds, .inl (cA, 6, .inl y1_t_kinds)), (t_deep, .inl (cA, 6, .inl y1_t_deep)), (t_leans, .inl (cA, 6, .inl y1_t_leans)), (t_moss, .inl (cA, 6, .inl y1_t_moss)), (t_rain, .inl (cA, 8, .inl y2_t_rain)), (t, .inr (7, [.ref t_page, .int t_pageMany, .int u1_t_end, .int ((u1_t_end + 1) / 4), .int ((t_pageMany - u1_t_end) - 1), .int t_weekNext, .int t_breaths, .int t_wallsRead, .ref t_kinds, .ref t_deep, .ref t_leans, .ref t_moss, .ref t_rain, .ref t_mossThen, .ref t_when, .int t_needsDone, .int t_seenMany, .ref t_sights, .int t_seedNow, .int t_keptWall, .int t_keptWeek, .int t_keptBreaths, .int t_keptSeen, .ref t_keptKinds, .ref t_keptDeep, .ref t_keptLeans, .ref t_keptMoss, .ref t_keptSights, .long t_hash])), (t_page, .inl (cA, 36, .inl c_t_page))] H → va_D A [(t_kinds, .inl (cA, 6, .inl y1_t_kinds)), (t_deep, .inl (cA, 6, .inl y1_t_deep)), (t_leans, .inl (cA, 6, .inl y1_t_leans)), (t_moss, .inl (cA, 6, .inl y1_t_moss)), (t_rain, .inl (cA, 8, .inl y2_t_rain)), (t, .inr (7, [.ref t_page, .int t_pageMany, .int u1_t_end, .int ((u1_t_end + 1) / 4), .int ((t_pageMany - u1_t_end) - 1), .int t_weekNext, .int t_breaths, .int t_wallsRead, .ref t_kinds, .ref t_deep, .ref t_leans, .ref t_moss, .ref t_rain, .ref t_mossThen, .ref t_when, .int t_needsDone, .int t_seenMany, .ref t_sights, .int t_seedNow, .int t_keptWall, .int t_keptWeek, .int t_keptBreaths, .int t_keptSeen, .ref t_keptKinds, .ref t_keptDeep, .ref t_keptLeans, .ref t_keptMoss, .ref t_keptSights, .long t_hash])), (t_page, .inl (cA, 36, .inl c_t_page))] → va_S A s.heap H locs → lv_has ls 3 [(2, .int x2_2), (1, .int r1), (0, .ref t)] → mX7_wall_L2 t_pageMany c_t_page u1_t_end k2_198 n2 x2_2 y2_t_rain = some (r, o_t_pageMany, o_t_end, o_t_clauses, o_t_rains, o_t_weekNext, o_t_breaths, o_t_wallsRead, o_t_seenMany, o_c_t_kinds, o_c_t_deep, o_c_t_leans, o_c_t_moss, o_c_t_rain) → W p l e (headSpec wsX7_wall rmX7_wall).room s m (([.ref t] : List Value).toArray) below meth c H locs 0 0 Q (F0 m 162 ls []) := by
                intro n2
                induction n2 with
                | zero =>
                  intro x2_2 y2_t_rain H locs ls hP hD hS hl hM
                  rw [mX7_wall_L2] at hM
                  exact mw_none hM
                | succ n2 ih2 =>
                  intro x2_2 y2_t_rain H locs ls hP hD hS hl hM
                  rw [mX7_wall_L2] at hM
                  refine lv_iload_n hx hb dX7_wall_162 rfl (lv_at hl 0 rfl) ?_
                  refine lv_aload_n hx hb dX7_wall_163 rfl (lv_at hl 2 rfl) ?_
                  refine va_get (D := D) (ci := 7) (v := .int ((t_pageMany - u1_t_end) - 1)) (C := RX7) (T := TX7) (N := 29) hx hb hts (fun _ h => List.mem_cons_of_mem _ (List.mem_append_right _ (h))) hown hK hP 5 rfl rfl 4 (by decide) (hts (.fieldLink RX7 91 "MossWallModel" "rains" "I") (List.mem_cons_of_mem _ (List.mem_append_left _ (List.mem_append_left _ (List.mem_of_getElem? (i := 3) rfl))))) (fun _ h9 => h9) rfl dX7_wall_164 ?_
                  refine lv_icmp_ge (tgt := 198) hx hb dX7_wall_167 (by decide) (fun q18 => ?_) (fun q18 => ?_)
                  · replace hM := mw_t hM q18
                    exact Ek2_198 x2_2 y2_t_rain _ _ _ hP hD hS (lv_sub hl [0, 1, 2] rfl) hM
                  · replace hM := mw_f hM q18
                    refine lv_aload_n hx hb dX7_wall_170 rfl (lv_at hl 2 rfl) ?_
                    refine va_get (D := D) (ci := 7) (v := .ref t_rain) (C := RX7) (T := TX7) (N := 29) hx hb hts (fun _ h => List.mem_cons_of_mem _ (List.mem_append_right _ (h))) hown hK hP 5 rfl rfl 12 (by decide) (hts (.fieldLink RX7 25 "MossWallModel" "rain" "[I") (List.mem_cons_of_mem _ (List.mem_append_left _ (List.mem_append_left _ (List.mem_of_getElem? (i := 9) rfl))))) (fun _ h9 => h9) rfl dX7_wall_171 ?_
                    refine lv_iload_n hx hb dX7_wall_174 rfl (lv_at hl 0 rfl) ?_
                    refine lv_aload_n hx hb dX7_wall_175 rfl (lv_at hl 2 rfl) ?_
                    refine va_get (D := D) (ci := 7) (v := .ref t_page) (C := RX7) (T := TX7) (N := 29) hx hb hts (fun _ h => List.mem_cons_of_mem _ (List.mem_append_right _ (h))) hown hK hP 5 rfl rfl 0 (by decide) (hts (.fieldLink RX7 7 "MossWallModel" "page" "[I") (List.mem_cons_of_mem _ (List.mem_append_left _ (List.mem_append_left _ (List.mem_of_getElem? (i := 5) rfl))))) (fun _ h9 => h9) rfl dX7_wall_176 ?_
                    refine lv_aload_n hx hb dX7_wall_179 rfl (lv_at hl 2 rfl) ?_
                    refine va_get (D := D) (ci := 7) (v := .int u1_t_end) (C := RX7) (T := TX7) (N := 29) hx hb hts (fun _ h => List.mem_cons_of_mem _ (List.mem_append_right _ (h))) hown hK hP 5 rfl rfl 2 (by decide) (hts (.fieldLink RX7 75 "MossWallModel" "end" "I") (List.mem_cons_of_mem _ (List.mem_append_left _ (List.mem_append_left _ (List.mem_of_getElem? (i := 1) rfl))))) (fun _ h9 => h9) rfl dX7_wall_180 ?_
                    refine lv_iconst (v := 1) hx hb dX7_wall_183 (by decide) ?_
                    refine lv_iadd hx hb dX7_wall_184 ?_
                    refine lv_iload_n hx hb dX7_wall_185 rfl (lv_at hl 0 rfl) ?_
                    refine lv_iadd hx hb dX7_wall_186 ?_
                    obtain ⟨e19, h19, hM⟩ := mw_d1 hM
                    refine mw_iald hx hb hK hP 6 0 rfl rfl h19 dX7_wall_187 ?_
                    refine lv_bipush (v := 48) hx hb dX7_wall_188 (by decide) ?_
                    refine lv_isub hx hb dX7_wall_190 ?_
                    obtain ⟨a20_rain, h20, hM⟩ := mw_d1 hM
                    refine mw_iast hx hb hK hP hD hS 4 0 rfl rfl h20 dX7_wall_191 (fun H locs hP hD hS => ?_)
                    have hP : va_P D vwCl [(t_kinds, .inl (cA, 6, .inl y1_t_kinds)), (t_deep, .inl (cA, 6, .inl y1_t_deep)), (t_leans, .inl (cA, 6, .inl y1_t_leans)), (t_moss, .inl (cA, 6, .inl y1_t_moss)), (t_rain, .inl (cA, 8, .inl a20_rain)), (t, .inr (7, [.ref t_page, .int t_pageMany, .int u1_t_end, .int ((u1_t_end + 1) / 4), .int ((t_pageMany - u1_t_end) - 1), .int t_weekNext, .int t_breaths, .int t_wallsRead, .ref t_kinds, .ref t_deep, .ref t_leans, .ref t_moss, .ref t_rain, .ref t_mossThen, .ref t_when, .int t_needsDone, .int t_seenMany, .ref t_sights, .int t_seedNow, .int t_keptWall, .int t_keptWeek, .int t_keptBreaths, .int t_keptSeen, .ref t_keptKinds, .ref t_keptDeep, .ref t_keptLeans, .ref t_keptMoss, .ref t_keptSights, .long t_hash])), (t_page, .inl (cA, 36, .inl c_t_page))] H := hP
                    have hD : va_D A [(t_kinds, .inl (cA, 6, .inl y1_t_kinds)), (t_deep, .inl (cA, 6, .inl y1_t_deep)), (t_leans, .inl (cA, 6, .inl y1_t_leans)), (t_moss, .inl (cA, 6, .inl y1_t_moss)), (t_rain, .inl (cA, 8, .inl a20_rain)), (t, .inr (7, [.ref t_page, .int t_pageMany, .int u1_t_end, .int ((u1_t_end + 1) / 4), .int ((t_pageMany - u1_t_end) - 1), .int t_weekNext, .int t_breaths, .int t_wallsRead, .ref t_kinds, .ref t_deep, .ref t_leans, .ref t_moss, .ref t_rain, .ref t_mossThen, .ref t_when, .int t_needsDone, .int t_seenMany, .ref t_sights, .int t_seedNow, .int t_keptWall, .int t_keptWeek, .int t_keptBreaths, .int t_keptSeen, .ref t_keptKinds, .ref t_keptDeep, .ref t_keptLeans, .ref t_keptMoss, .ref t_keptSights, .long t_hash])), (t_page, .inl (cA, 36, .inl c_t_page))] := hD
                    refine lv_iinc (v := x2_2 + 1) (lv' := [(2, .int (x2_2 + 1)), (1, .int r1), (0, .ref t)]) hx hb dX7_wall_192 hl (k := 0) rfl (by first | rfl | decide) (by decide) rfl (fun ls hl => ?_)
                    refine lv_goto (tgt := 162) hx hb dX7_wall_195 (by decide) ?_
                    exact ih2 (x2_2 + 1) a20_rain _ _ _ hP hD hS (lv_sub hl [0, 1, 2] rfl) hM
            exact L2 300 0 c_t_rain _ _ _ hP hD hS hl (by rw [jk2_198]; exact hM)
        have L1 : ∀ (n1 : Nat) (x2_1 : Int32) (y1_t_kinds : Nat → Int32) (y1_t_deep : Nat → Int32) (y1_t_leans : Nat → Int32) (y1_t_moss : Nat → Int32) (H : Heap) (locs : List Loc) (ls : Array Slot), va_P D vwCl [(t_kinds, .inl (cA, 6, .inl y1_t_kinds)), (t_deep, .inl (cA, 6, .inl y1_t_deep)), (t_leans, .inl (cA, 6, .inl y1_t_leans)), (t_moss, .inl (cA, 6, .inl y1_t_moss)), (t_rain, .inl (cA, 8, .inl c_t_rain)), (t, .inr (7, [.ref t_page, .int t_pageMany, .int u1_t_end, .int ((u1_t_end + 1) / 4), .int ((t_pageMany - u1_t_end) - 1), .int t_weekNext, .int t_breaths, .int t_wallsRead, .ref t_kinds, .ref t_deep, .ref t_leans, .ref t_moss, .ref t_rain, .ref t_mossThen, .ref t_when, .int t_needsDone, .int t_seenMany, .ref t_sights, .int t_seedNow, .int t_keptWall, .int t_keptWeek, .int t_keptBreaths, .int t_keptSeen, .ref t_keptKinds, .ref t_keptDeep, .ref t_keptLeans, .ref t_keptMoss, .ref t_keptSights, .long t_hash])), (t_page, .inl (cA, 36, .inl c_t_page))] H → va_D A [(t_kinds, .inl (cA, 6, .inl y1_t_kinds)), (t_deep, .inl (cA, 6, .inl y1_t_deep)), (t_leans, .inl (cA, 6, .inl y1_t_leans)), (t_moss, .inl (cA, 6, .inl y1_t_moss)), (t_rain, .inl (cA, 8, .inl c_t_rain)), (t, .inr (7, [.ref t_page, .int t_pageMany, .int u1_t_end, .int ((u1_t_end + 1) / 4), .int ((t_pageMany - u1_t_end) - 1), .int t_weekNext, .int t_breaths, .int t_wallsRead, .ref t_kinds, .ref t_deep, .ref t_leans, .ref t_moss, .ref t_rain, .ref t_mossThen, .ref t_when, .int t_needsDone, .int t_seenMany, .ref t_sights, .int t_seedNow, .int t_keptWall, .int t_keptWeek, .int t_keptBreaths, .int t_keptSeen, .ref t_keptKinds, .ref t_keptDeep, .ref t_keptLeans, .ref t_keptMoss, .ref t_keptSights, .long t_hash])), (t_page, .inl (cA, 36, .inl c_t_page))] → va_S A s.heap H locs → lv_has ls 3 [(2, .int x2_1), (1, .int r1), (0, .ref t)] → mX7_wall_L1 c_t_page u1_t_end k1_160 n1 x2_1 y1_t_kinds y1_t_deep y1_t_leans y1_t_moss = some (r, o_t_pageMany, o_t_end, o_t_clauses, o_t_rains, o_t_weekNext, o_t_breaths, o_t_wallsRead, o_t_seenMany, o_c_t_kinds, o_c_t_deep, o_c_t_leans, o_c_t_moss, o_c_t_rain) → W p l e (headSpec wsX7_wall rmX7_wall).room s m (([.ref t] : List Value).toArray) below meth c H locs 0 0 Q (F0 m 65 ls []) := by
            intro n1
            induction n1 with
            | zero =>
              intro x2_1 y1_t_kinds y1_t_deep y1_t_leans y1_t_moss H locs ls hP hD hS hl hM
              rw [mX7_wall_L1] at hM
              exact mw_none hM
            | succ n1 ih1 =>
              intro x2_1 y1_t_kinds y1_t_deep y1_t_leans y1_t_moss H locs ls hP hD hS hl hM
              rw [mX7_wall_L1] at hM
              refine lv_iload_n hx hb dX7_wall_65 rfl (lv_at hl 0 rfl) ?_
              refine lv_aload_n hx hb dX7_wall_66 rfl (lv_at hl 2 rfl) ?_
              refine va_get (D := D) (ci := 7) (v := .int ((u1_t_end + 1) / 4)) (C := RX7) (T := TX7) (N := 29) hx hb hts (fun _ h => List.mem_cons_of_mem _ (List.mem_append_right _ (h))) hown hK hP 5 rfl rfl 3 (by decide) (hts (.fieldLink RX7 88 "MossWallModel" "clauses" "I") (List.mem_cons_of_mem _ (List.mem_append_left _ (List.mem_append_left _ (List.mem_of_getElem? (i := 2) rfl))))) (fun _ h9 => h9) rfl dX7_wall_67 ?_
              refine lv_icmp_ge (tgt := 160) hx hb dX7_wall_70 (by decide) (fun q5 => ?_) (fun q5 => ?_)
              · replace hM := mw_t hM q5
                exact Ek1_160 x2_1 y1_t_kinds y1_t_deep y1_t_leans y1_t_moss _ _ _ hP hD hS (lv_sub hl [0, 1, 2] rfl) hM
              · replace hM := mw_f hM q5
                refine lv_aload_n hx hb dX7_wall_73 rfl (lv_at hl 2 rfl) ?_
                refine va_get (D := D) (ci := 7) (v := .ref t_kinds) (C := RX7) (T := TX7) (N := 29) hx hb hts (fun _ h => List.mem_cons_of_mem _ (List.mem_append_right _ (h))) hown hK hP 5 rfl rfl 8 (by decide) (hts (.fieldLink RX7 13 "MossWallModel" "kinds" "[I") (List.mem_cons_of_mem _ (List.mem_append_left _ (List.mem_append_left _ (List.mem_of_getElem? (i := 4) rfl))))) (fun _ h9 => h9) rfl dX7_wall_74 ?_
                refine lv_iload_n hx hb dX7_wall_77 rfl (lv_at hl 0 rfl) ?_
                refine lv_aload_n hx hb dX7_wall_78 rfl (lv_at hl 2 rfl) ?_
                refine va_get (D := D) (ci := 7) (v := .ref t_page) (C := RX7) (T := TX7) (N := 29) hx hb hts (fun _ h => List.mem_cons_of_mem _ (List.mem_append_right _ (h))) hown hK hP 5 rfl rfl 0 (by decide) (hts (.fieldLink RX7 7 "MossWallModel" "page" "[I") (List.mem_cons_of_mem _ (List.mem_append_left _ (List.mem_append_left _ (List.mem_of_getElem? (i := 5) rfl))))) (fun _ h9 => h9) rfl dX7_wall_79 ?_
                refine lv_iconst (v := 4) hx hb dX7_wall_82 (by decide) ?_
                refine lv_iload_n hx hb dX7_wall_83 rfl (lv_at hl 0 rfl) ?_
                refine lv_imul hx hb dX7_wall_84 ?_
                obtain ⟨e6, h6, hM⟩ := mw_d1 hM
                refine mw_iald hx hb hK hP 6 0 rfl rfl h6 dX7_wall_85 ?_
                obtain ⟨r7, h7, hM⟩ := mw_d1 hM
                have hPc := hP.sub (ws' := []) [] rfl
                refine vp_callSi (va_Run.run (va_runS (As := [.int e6]) (rest := [.int x2_1, .ref t_kinds]) ⟨hx, hb, hml, hown, hts⟩ (kX7_kindBy l D cA e6 r7 h7) (va_cwS 1 hts gX7_wall_X7_kindBy rfl rfl rfl (by decide +kernel) ⟨Nat.le_of_ble_eq_true rfl, Nat.le_of_ble_eq_true rfl⟩) ⟨mw_fbR, mw_puR hPc hE⟩ rfl rfl hl.1 rfl (lv_room (Nat.le_of_ble_eq_true rfl)) dX7_wall_86 ⟨Nat.zero_le _, Nat.zero_le _⟩)) (fun v_ e_ => ?_)
                subst v_
                obtain ⟨a8_kinds, h8, hM⟩ := mw_d1 hM
                refine mw_iast hx hb hK hP hD hS 0 0 rfl rfl h8 dX7_wall_89 (fun H locs hP hD hS => ?_)
                have hP : va_P D vwCl [(t_kinds, .inl (cA, 6, .inl a8_kinds)), (t_deep, .inl (cA, 6, .inl y1_t_deep)), (t_leans, .inl (cA, 6, .inl y1_t_leans)), (t_moss, .inl (cA, 6, .inl y1_t_moss)), (t_rain, .inl (cA, 8, .inl c_t_rain)), (t, .inr (7, [.ref t_page, .int t_pageMany, .int u1_t_end, .int ((u1_t_end + 1) / 4), .int ((t_pageMany - u1_t_end) - 1), .int t_weekNext, .int t_breaths, .int t_wallsRead, .ref t_kinds, .ref t_deep, .ref t_leans, .ref t_moss, .ref t_rain, .ref t_mossThen, .ref t_when, .int t_needsDone, .int t_seenMany, .ref t_sights, .int t_seedNow, .int t_keptWall, .int t_keptWeek, .int t_keptBreaths, .int t_keptSeen, .ref t_keptKinds, .ref t_keptDeep, .ref t_keptLeans, .ref t_keptMoss, .ref t_keptSights, .long t_hash])), (t_page, .inl (cA, 36, .inl c_t_page))] H := hP
                have hD : va_D A [(t_kinds, .inl (cA, 6, .inl a8_kinds)), (t_deep, .inl (cA, 6, .inl y1_t_deep)), (t_leans, .inl (cA, 6, .inl y1_t_leans)), (t_moss, .inl (cA, 6, .inl y1_t_moss)), (t_rain, .inl (cA, 8, .inl c_t_rain)), (t, .inr (7, [.ref t_page, .int t_pageMany, .int u1_t_end, .int ((u1_t_end + 1) / 4), .int ((t_pageMany - u1_t_end) - 1), .int t_weekNext, .int t_breaths, .int t_wallsRead, .ref t_kinds, .ref t_deep, .ref t_leans, .ref t_moss, .ref t_rain, .ref t_mossThen, .ref t_when, .int t_needsDone, .int t_seenMany, .ref t_sights, .int t_seedNow, .int t_keptWall, .int t_keptWeek, .int t_keptBreaths, .int t_keptSeen, .ref t_keptKinds, .ref t_keptDeep, .ref t_keptLeans, .ref t_keptMoss, .ref t_keptSights, .long t_hash])), (t_page, .inl (cA, 36, .inl c_t_page))] := hD
                refine lv_aload_n hx hb dX7_wall_90 rfl (lv_at hl 2 rfl) ?_
                refine va_get (D := D) (ci := 7) (v := .ref t_deep) (C := RX7) (T := TX7) (N := 29) hx hb hts (fun _ h => List.mem_cons_of_mem _ (List.mem_append_right _ (h))) hown hK hP 5 rfl rfl 9 (by decide) (hts (.fieldLink RX7 16 "MossWallModel" "deep" "[I") (List.mem_cons_of_mem _ (List.mem_append_left _ (List.mem_append_left _ (List.mem_of_getElem? (i := 6) rfl))))) (fun _ h9 => h9) rfl dX7_wall_91 ?_
                refine lv_iload_n hx hb dX7_wall_94 rfl (lv_at hl 0 rfl) ?_
                refine lv_aload_n hx hb dX7_wall_95 rfl (lv_at hl 2 rfl) ?_
                refine va_get (D := D) (ci := 7) (v := .ref t_page) (C := RX7) (T := TX7) (N := 29) hx hb hts (fun _ h => List.mem_cons_of_mem _ (List.mem_append_right _ (h))) hown hK hP 5 rfl rfl 0 (by decide) (hts (.fieldLink RX7 7 "MossWallModel" "page" "[I") (List.mem_cons_of_mem _ (List.mem_append_left _ (List.mem_append_left _ (List.mem_of_getElem? (i := 5) rfl))))) (fun _ h9 => h9) rfl dX7_wall_96 ?_
                refine lv_iconst (v := 4) hx hb dX7_wall_99 (by decide) ?_
                refine lv_iload_n hx hb dX7_wall_100 rfl (lv_at hl 0 rfl) ?_
                refine lv_imul hx hb dX7_wall_101 ?_
                refine lv_iconst (v := 1) hx hb dX7_wall_102 (by decide) ?_
                refine lv_iadd hx hb dX7_wall_103 ?_
                obtain ⟨e9, h9, hM⟩ := mw_d1 hM
                refine mw_iald hx hb hK hP 6 0 rfl rfl h9 dX7_wall_104 ?_
                refine lv_bipush (v := 48) hx hb dX7_wall_105 (by decide) ?_
                refine lv_isub hx hb dX7_wall_107 ?_
                obtain ⟨a10_deep, h10, hM⟩ := mw_d1 hM
                refine mw_iast hx hb hK hP hD hS 1 0 rfl rfl h10 dX7_wall_108 (fun H locs hP hD hS => ?_)
                have hP : va_P D vwCl [(t_kinds, .inl (cA, 6, .inl a8_kinds)), (t_deep, .inl (cA, 6, .inl a10_deep)), (t_leans, .inl (cA, 6, .inl y1_t_leans)), (t_moss, .inl (cA, 6, .inl y1_t_moss)), (t_rain, .inl (cA, 8, .inl c_t_rain)), (t, .inr (7, [.ref t_page, .int t_pageMany, .int u1_t_end, .int ((u1_t_end + 1) / 4), .int ((t_pageMany - u1_t_end) - 1), .int t_weekNext, .int t_breaths, .int t_wallsRead, .ref t_kinds, .ref t_deep, .ref t_leans, .ref t_moss, .ref t_rain, .ref t_mossThen, .ref t_when, .int t_needsDone, .int t_seenMany, .ref t_sights, .int t_seedNow, .int t_keptWall, .int t_keptWeek, .int t_keptBreaths, .int t_keptSeen, .ref t_keptKinds, .ref t_keptDeep, .ref t_keptLeans, .ref t_keptMoss, .ref t_keptSights, .long t_hash])), (t_page, .inl (cA, 36, .inl c_t_page))] H := hP
                have hD : va_D A [(t_kinds, .inl (cA, 6, .inl a8_kinds)), (t_deep, .inl (cA, 6, .inl a10_deep)), (t_leans, .inl (cA, 6, .inl y1_t_leans)), (t_moss, .inl (cA, 6, .inl y1_t_moss)), (t_rain, .inl (cA, 8, .inl c_t_rain)), (t, .inr (7, [.ref t_page, .int t_pageMany, .int u1_t_end, .int ((u1_t_end + 1) / 4), .int ((t_pageMany - u1_t_end) - 1), .int t_weekNext, .int t_breaths, .int t_wallsRead, .ref t_kinds, .ref t_deep, .ref t_leans, .ref t_moss, .ref t_rain, .ref t_mossThen, .ref t_when, .int t_needsDone, .int t_seenMany, .ref t_sights, .int t_seedNow, .int t_keptWall, .int t_keptWeek, .int t_keptBreaths, .int t_keptSeen, .ref t_keptKinds, .ref t_keptDeep, .ref t_keptLeans, .ref t_keptMoss, .ref t_keptSights, .long t_hash])), (t_page, .inl (cA, 36, .inl c_t_page))] := hD
                refine lv_aload_n hx hb dX7_wall_109 rfl (lv_at hl 2 rfl) ?_
                refine va_get (D := D) (ci := 7) (v := .ref t_leans) (C := RX7) (T := TX7) (N := 29) hx hb hts (fun _ h => List.mem_cons_of_mem _ (List.mem_append_right _ (h))) hown hK hP 5 rfl rfl 10 (by decide) (hts (.fieldLink RX7 19 "MossWallModel" "leans" "[I") (List.mem_cons_of_mem _ (List.mem_append_left _ (List.mem_append_left _ (List.mem_of_getElem? (i := 7) rfl))))) (fun _ h9 => h9) rfl dX7_wall_110 ?_
                refine lv_iload_n hx hb dX7_wall_113 rfl (lv_at hl 0 rfl) ?_
                refine lv_aload_n hx hb dX7_wall_114 rfl (lv_at hl 2 rfl) ?_
                refine va_get (D := D) (ci := 7) (v := .ref t_page) (C := RX7) (T := TX7) (N := 29) hx hb hts (fun _ h => List.mem_cons_of_mem _ (List.mem_append_right _ (h))) hown hK hP 5 rfl rfl 0 (by decide) (hts (.fieldLink RX7 7 "MossWallModel" "page" "[I") (List.mem_cons_of_mem _ (List.mem_append_left _ (List.mem_append_left _ (List.mem_of_getElem? (i := 5) rfl))))) (fun _ h9 => h9) rfl dX7_wall_115 ?_
                refine lv_iconst (v := 4) hx hb dX7_wall_118 (by decide) ?_
                refine lv_iload_n hx hb dX7_wall_119 rfl (lv_at hl 0 rfl) ?_
                refine lv_imul hx hb dX7_wall_120 ?_
                refine lv_iconst (v := 2) hx hb dX7_wall_121 (by decide) ?_
                refine lv_iadd hx hb dX7_wall_122 ?_
                obtain ⟨e11, h11, hM⟩ := mw_d1 hM
                refine mw_iald hx hb hK hP 6 0 rfl rfl h11 dX7_wall_123 ?_
                refine lv_bipush (v := 45) hx hb dX7_wall_124 (by decide) ?_
                refine lv_icmp_ne (tgt := 133) hx hb dX7_wall_126 (by decide) (fun q12 => ?_) (fun q12 => ?_)
                · replace hM := mw_f hM q12
                  refine lv_aload_n hx hb dX7_wall_133 rfl (lv_at hl 2 rfl) ?_
                  refine va_get (D := D) (ci := 7) (v := .ref t_page) (C := RX7) (T := TX7) (N := 29) hx hb hts (fun _ h => List.mem_cons_of_mem _ (List.mem_append_right _ (h))) hown hK hP 5 rfl rfl 0 (by decide) (hts (.fieldLink RX7 7 "MossWallModel" "page" "[I") (List.mem_cons_of_mem _ (List.mem_append_left _ (List.mem_append_left _ (List.mem_of_getElem? (i := 5) rfl))))) (fun _ h9 => h9) rfl dX7_wall_134 ?_
                  refine lv_iconst (v := 4) hx hb dX7_wall_137 (by decide) ?_
                  refine lv_iload_n hx hb dX7_wall_138 rfl (lv_at hl 0 rfl) ?_
                  refine lv_imul hx hb dX7_wall_139 ?_
                  refine lv_iconst (v := 2) hx hb dX7_wall_140 (by decide) ?_
                  refine lv_iadd hx hb dX7_wall_141 ?_
                  obtain ⟨e13, h13, hM⟩ := mw_d1 hM
                  refine mw_iald hx hb hK hP 6 0 rfl rfl h13 dX7_wall_142 ?_
                  refine lv_bipush (v := 48) hx hb dX7_wall_143 (by decide) ?_
                  refine lv_isub hx hb dX7_wall_145 ?_
                  obtain ⟨a14_leans, h14, hM⟩ := mw_d1 hM
                  refine mw_iast hx hb hK hP hD hS 2 0 rfl rfl h14 dX7_wall_146 (fun H locs hP hD hS => ?_)
                  have hP : va_P D vwCl [(t_kinds, .inl (cA, 6, .inl a8_kinds)), (t_deep, .inl (cA, 6, .inl a10_deep)), (t_leans, .inl (cA, 6, .inl a14_leans)), (t_moss, .inl (cA, 6, .inl y1_t_moss)), (t_rain, .inl (cA, 8, .inl c_t_rain)), (t, .inr (7, [.ref t_page, .int t_pageMany, .int u1_t_end, .int ((u1_t_end + 1) / 4), .int ((t_pageMany - u1_t_end) - 1), .int t_weekNext, .int t_breaths, .int t_wallsRead, .ref t_kinds, .ref t_deep, .ref t_leans, .ref t_moss, .ref t_rain, .ref t_mossThen, .ref t_when, .int t_needsDone, .int t_seenMany, .ref t_sights, .int t_seedNow, .int t_keptWall, .int t_keptWeek, .int t_keptBreaths, .int t_keptSeen, .ref t_keptKinds, .ref t_keptDeep, .ref t_keptLeans, .ref t_keptMoss, .ref t_keptSights, .long t_hash])), (t_page, .inl (cA, 36, .inl c_t_page))] H := hP
                  have hD : va_D A [(t_kinds, .inl (cA, 6, .inl a8_kinds)), (t_deep, .inl (cA, 6, .inl a10_deep)), (t_leans, .inl (cA, 6, .inl a14_leans)), (t_moss, .inl (cA, 6, .inl y1_t_moss)), (t_rain, .inl (cA, 8, .inl c_t_rain)), (t, .inr (7, [.ref t_page, .int t_pageMany, .int u1_t_end, .int ((u1_t_end + 1) / 4), .int ((t_pageMany - u1_t_end) - 1), .int t_weekNext, .int t_breaths, .int t_wallsRead, .ref t_kinds, .ref t_deep, .ref t_leans, .ref t_moss, .ref t_rain, .ref t_mossThen, .ref t_when, .int t_needsDone, .int t_seenMany, .ref t_sights, .int t_seedNow, .int t_keptWall, .int t_keptWeek, .int t_keptBreaths, .int t_keptSeen, .ref t_keptKinds, .ref t_keptDeep, .ref t_keptLeans, .ref t_keptMoss, .ref t_keptSights, .long t_hash])), (t_page, .inl (cA, 36, .inl c_t_page))] := hD
                  refine lv_aload_n hx hb dX7_wall_147 rfl (lv_at hl 2 rfl) ?_
                  refine va_get (D := D) (ci := 7) (v := .ref t_moss) (C := RX7) (T := TX7) (N := 29) hx hb hts (fun _ h => List.mem_cons_of_mem _ (List.mem_append_right _ (h))) hown hK hP 5 rfl rfl 11 (by decide) (hts (.fieldLink RX7 22 "MossWallModel" "moss" "[I") (List.mem_cons_of_mem _ (List.mem_append_left _ (List.mem_append_left _ (List.mem_of_getElem? (i := 8) rfl))))) (fun _ h9 => h9) rfl dX7_wall_148 ?_
                  refine lv_iload_n hx hb dX7_wall_151 rfl (lv_at hl 0 rfl) ?_
                  refine lv_iconst (v := 0) hx hb dX7_wall_152 (by decide) ?_
                  obtain ⟨a15_moss, h15, hM⟩ := mw_d1 hM
                  refine mw_iast hx hb hK hP hD hS 3 0 rfl rfl h15 dX7_wall_153 (fun H locs hP hD hS => ?_)
                  have hP : va_P D vwCl [(t_kinds, .inl (cA, 6, .inl a8_kinds)), (t_deep, .inl (cA, 6, .inl a10_deep)), (t_leans, .inl (cA, 6, .inl a14_leans)), (t_moss, .inl (cA, 6, .inl a15_moss)), (t_rain, .inl (cA, 8, .inl c_t_rain)), (t, .inr (7, [.ref t_page, .int t_pageMany, .int u1_t_end, .int ((u1_t_end + 1) / 4), .int ((t_pageMany - u1_t_end) - 1), .int t_weekNext, .int t_breaths, .int t_wallsRead, .ref t_kinds, .ref t_deep, .ref t_leans, .ref t_moss, .ref t_rain, .ref t_mossThen, .ref t_when, .int t_needsDone, .int t_seenMany, .ref t_sights, .int t_seedNow, .int t_keptWall, .int t_keptWeek, .int t_keptBreaths, .int t_keptSeen, .ref t_keptKinds, .ref t_keptDeep, .ref t_keptLeans, .ref t_keptMoss, .ref t_keptSights, .long t_hash])), (t_page, .inl (cA, 36, .inl c_t_page))] H := hP
                  have hD : va_D A [(t_kinds, .inl (cA, 6, .inl a8_kinds)), (t_deep, .inl (cA, 6, .inl a10_deep)), (t_leans, .inl (cA, 6, .inl a14_leans)), (t_moss, .inl (cA, 6, .inl a15_moss)), (t_rain, .inl (cA, 8, .inl c_t_rain)), (t, .inr (7, [.ref t_page, .int t_pageMany, .int u1_t_end, .int ((u1_t_end + 1) / 4), .int ((t_pageMany - u1_t_end) - 1), .int t_weekNext, .int t_breaths, .int t_wallsRead, .ref t_kinds, .ref t_deep, .ref t_leans, .ref t_moss, .ref t_rain, .ref t_mossThen, .ref t_when, .int t_needsDone, .int t_seenMany, .ref t_sights, .int t_seedNow, .int t_keptWall, .int t_keptWeek, .int t_keptBreaths, .int t_keptSeen, .ref t_keptKinds, .ref t_keptDeep, .ref t_keptLeans, .ref t_keptMoss, .ref t_keptSights, .long t_hash])), (t_page, .inl (cA, 36, .inl c_t_page))] := hD
                  refine lv_iinc (v := x2_1 + 1) (lv' := [(2, .int (x2_1 + 1)), (1, .int r1), (0, .ref t)]) hx hb dX7_wall_154 hl (k := 0) rfl (by first | rfl | decide) (by decide) rfl (fun ls hl => ?_)
                  refine lv_goto (tgt := 65) hx hb dX7_wall_157 (by decide) ?_
                  exact ih1 (x2_1 + 1) a8_kinds a10_deep a14_leans a15_moss _ _ _ hP hD hS (lv_sub hl [0, 1, 2] rfl) hM
                · replace hM := mw_t hM q12
                  refine lv_iconst (v := (-1)) hx hb dX7_wall_129 (by decide) ?_
                  refine lv_goto (tgt := 146) hx hb dX7_wall_130 (by decide) ?_
                  obtain ⟨a16_leans, h16, hM⟩ := mw_d1 hM
                  refine mw_iast hx hb hK hP hD hS 2 0 rfl rfl h16 dX7_wall_146 (fun H locs hP hD hS => ?_)
                  have hP : va_P D vwCl [(t_kinds, .inl (cA, 6, .inl a8_kinds)), (t_deep, .inl (cA, 6, .inl a10_deep)), (t_leans, .inl (cA, 6, .inl a16_leans)), (t_moss, .inl (cA, 6, .inl y1_t_moss)), (t_rain, .inl (cA, 8, .inl c_t_rain)), (t, .inr (7, [.ref t_page, .int t_pageMany, .int u1_t_end, .int ((u1_t_end + 1) / 4), .int ((t_pageMany - u1_t_end) - 1), .int t_weekNext, .int t_breaths, .int t_wallsRead, .ref t_kinds, .ref t_deep, .ref t_leans, .ref t_moss, .ref t_rain, .ref t_mossThen, .ref t_when, .int t_needsDone, .int t_seenMany, .ref t_sights, .int t_seedNow, .int t_keptWall, .int t_keptWeek, .int t_keptBreaths, .int t_keptSeen, .ref t_keptKinds, .ref t_keptDeep, .ref t_keptLeans, .ref t_keptMoss, .ref t_keptSights, .long t_hash])), (t_page, .inl (cA, 36, .inl c_t_page))] H := hP
                  have hD : va_D A [(t_kinds, .inl (cA, 6, .inl a8_kinds)), (t_deep, .inl (cA, 6, .inl a10_deep)), (t_leans, .inl (cA, 6, .inl a16_leans)), (t_moss, .inl (cA, 6, .inl y1_t_moss)), (t_rain, .inl (cA, 8, .inl c_t_rain)), (t, .inr (7, [.ref t_page, .int t_pageMany, .int u1_t_end, .int ((u1_t_end + 1) / 4), .int ((t_pageMany - u1_t_end) - 1), .int t_weekNext, .int t_breaths, .int t_wallsRead, .ref t_kinds, .ref t_deep, .ref t_leans, .ref t_moss, .ref t_rain, .ref t_mossThen, .ref t_when, .int t_needsDone, .int t_seenMany, .ref t_sights, .int t_seedNow, .int t_keptWall, .int t_keptWeek, .int t_keptBreaths, .int t_keptSeen, .ref t_keptKinds, .ref t_keptDeep, .ref t_keptLeans, .ref t_keptMoss, .ref t_keptSights, .long t_hash])), (t_page, .inl (cA, 36, .inl c_t_page))] := hD
                  refine lv_aload_n hx hb dX7_wall_147 rfl (lv_at hl 2 rfl) ?_
                  refine va_get (D := D) (ci := 7) (v := .ref t_moss) (C := RX7) (T := TX7) (N := 29) hx hb hts (fun _ h => List.mem_cons_of_mem _ (List.mem_append_right _ (h))) hown hK hP 5 rfl rfl 11 (by decide) (hts (.fieldLink RX7 22 "MossWallModel" "moss" "[I") (List.mem_cons_of_mem _ (List.mem_append_left _ (List.mem_append_left _ (List.mem_of_getElem? (i := 8) rfl))))) (fun _ h9 => h9) rfl dX7_wall_148 ?_
                  refine lv_iload_n hx hb dX7_wall_151 rfl (lv_at hl 0 rfl) ?_
                  refine lv_iconst (v := 0) hx hb dX7_wall_152 (by decide) ?_
                  obtain ⟨a17_moss, h17, hM⟩ := mw_d1 hM
                  refine mw_iast hx hb hK hP hD hS 3 0 rfl rfl h17 dX7_wall_153 (fun H locs hP hD hS => ?_)
                  have hP : va_P D vwCl [(t_kinds, .inl (cA, 6, .inl a8_kinds)), (t_deep, .inl (cA, 6, .inl a10_deep)), (t_leans, .inl (cA, 6, .inl a16_leans)), (t_moss, .inl (cA, 6, .inl a17_moss)), (t_rain, .inl (cA, 8, .inl c_t_rain)), (t, .inr (7, [.ref t_page, .int t_pageMany, .int u1_t_end, .int ((u1_t_end + 1) / 4), .int ((t_pageMany - u1_t_end) - 1), .int t_weekNext, .int t_breaths, .int t_wallsRead, .ref t_kinds, .ref t_deep, .ref t_leans, .ref t_moss, .ref t_rain, .ref t_mossThen, .ref t_when, .int t_needsDone, .int t_seenMany, .ref t_sights, .int t_seedNow, .int t_keptWall, .int t_keptWeek, .int t_keptBreaths, .int t_keptSeen, .ref t_keptKinds, .ref t_keptDeep, .ref t_keptLeans, .ref t_keptMoss, .ref t_keptSights, .long t_hash])), (t_page, .inl (cA, 36, .inl c_t_page))] H := hP
                  have hD : va_D A [(t_kinds, .inl (cA, 6, .inl a8_kinds)), (t_deep, .inl (cA, 6, .inl a10_deep)), (t_leans, .inl (cA, 6, .inl a16_leans)), (t_moss, .inl (cA, 6, .inl a17_moss)), (t_rain, .inl (cA, 8, .inl c_t_rain)), (t, .inr (7, [.ref t_page, .int t_pageMany, .int u1_t_end, .int ((u1_t_end + 1) / 4), .int ((t_pageMany - u1_t_end) - 1), .int t_weekNext, .int t_breaths, .int t_wallsRead, .ref t_kinds, .ref t_deep, .ref t_leans, .ref t_moss, .ref t_rain, .ref t_mossThen, .ref t_when, .int t_needsDone, .int t_seenMany, .ref t_sights, .int t_seedNow, .int t_keptWall, .int t_keptWeek, .int t_keptBreaths, .int t_keptSeen, .ref t_keptKinds, .ref t_keptDeep, .ref t_keptLeans, .ref t_keptMoss, .ref t_keptSights, .long t_hash])), (t_page, .inl (cA, 36, .inl c_t_page))] := hD
                  refine lv_iinc (v := x2_1 + 1) (lv' := [(2, .int (x2_1 + 1)), (1, .int r1), (0, .ref t)]) hx hb dX7_wall_154 hl (k := 0) rfl (by first | rfl | decide) (by decide) rfl (fun ls hl => ?_)
                  refine lv_goto (tgt := 65) hx hb dX7_wall_157 (by decide) ?_
                  exact ih1 (x2_1 + 1) a8_kinds a10_deep a16_leans a17_moss _ _ _ hP hD hS (lv_sub hl [0, 1, 2] rfl) hM
        exact L1 300 0 c_t_kinds c_t_deep c_t_leans c_t_moss _ _ _ hP hD hS hl (by rw [jk1_160]; exact hM)
      · replace hM := mw_t hM q4
        refine lv_bipush (v := (-103)) hx hb dX7_wall_33 (by decide) ?_
        have hP := hP.sub (ws' := [(t, .inr (7, [.ref t_page, .int t_pageMany, .int u1_t_end, .int t_clauses, .int t_rains, .int t_weekNext, .int t_breaths, .int t_wallsRead, .ref t_kinds, .ref t_deep, .ref t_leans, .ref t_moss, .ref t_rain, .ref t_mossThen, .ref t_when, .int t_needsDone, .int t_seenMany, .ref t_sights, .int t_seedNow, .int t_keptWall, .int t_keptWeek, .int t_keptBreaths, .int t_keptSeen, .ref t_keptKinds, .ref t_keptDeep, .ref t_keptLeans, .ref t_keptMoss, .ref t_keptSights, .long t_hash])), (t_page, .inl (cA, 36, .inl c_t_page)), (t_kinds, .inl (cA, 6, .inl c_t_kinds)), (t_deep, .inl (cA, 6, .inl c_t_deep)), (t_leans, .inl (cA, 6, .inl c_t_leans)), (t_moss, .inl (cA, 6, .inl c_t_moss)), (t_rain, .inl (cA, 8, .inl c_t_rain))]) [5, 6, 0, 1, 2, 3, 4] rfl
        have hD := hD.sub (ws' := [(t, .inr (7, [.ref t_page, .int t_pageMany, .int u1_t_end, .int t_clauses, .int t_rains, .int t_weekNext, .int t_breaths, .int t_wallsRead, .ref t_kinds, .ref t_deep, .ref t_leans, .ref t_moss, .ref t_rain, .ref t_mossThen, .ref t_when, .int t_needsDone, .int t_seenMany, .ref t_sights, .int t_seedNow, .int t_keptWall, .int t_keptWeek, .int t_keptBreaths, .int t_keptSeen, .ref t_keptKinds, .ref t_keptDeep, .ref t_keptLeans, .ref t_keptMoss, .ref t_keptSights, .long t_hash])), (t_page, .inl (cA, 36, .inl c_t_page)), (t_kinds, .inl (cA, 6, .inl c_t_kinds)), (t_deep, .inl (cA, 6, .inl c_t_deep)), (t_leans, .inl (cA, 6, .inl c_t_leans)), (t_moss, .inl (cA, 6, .inl c_t_moss)), (t_rain, .inl (cA, 8, .inl c_t_rain))]) [5, 6, 0, 1, 2, 3, 4] (by decide) rfl
        obtain ⟨rfl, rfl, rfl, rfl, rfl, rfl, rfl, rfl, rfl, rfl, rfl, rfl, rfl, rfl⟩ := mw_o14 hM
        subst hQ
        exact W.iret hx hb hr (fun t ht hW => ⟨⟨_, (), rfl, rfl, by rw [ht]; exact hP, hD⟩, hS.F ht⟩) hS.2.2 dX7_wall_35
def mX7_lacks (t_clauses : Int32) : Option Int32 :=
  (if t_clauses = 0 then some 1 else some 0)
abbrev rmX7_lacks : Room := ({ frames := 0, cells := 0, slots := 0, locals := 0 } : Room)
set_option maxHeartbeats 4000000 in
set_option maxRecDepth 100000 in
theorem kX7_lacks (l : Launch) (D : va_G) (cA : ClassId) (t t_page t_kinds t_deep t_leans t_moss t_rain t_mossThen t_when t_sights t_keptKinds t_keptDeep t_keptLeans t_keptMoss t_keptSights : Nat) (t_pageMany : Int32) (t_end : Int32) (t_clauses : Int32) (t_rains : Int32) (t_weekNext : Int32) (t_breaths : Int32) (t_wallsRead : Int32) (t_needsDone : Int32) (t_seenMany : Int32) (t_seedNow : Int32) (t_keptWall : Int32) (t_keptWeek : Int32) (t_keptBreaths : Int32) (t_keptSeen : Int32) (t_hash : Int64) (r : Int32) (hM : mX7_lacks t_clauses = some r) : Met l yX7_lacks wsX7_lacks rmX7_lacks (va_Pc [.ref t] (fun U => va_P D vwCl [(t, .inr (7, [.ref t_page, .int t_pageMany, .int t_end, .int t_clauses, .int t_rains, .int t_weekNext, .int t_breaths, .int t_wallsRead, .ref t_kinds, .ref t_deep, .ref t_leans, .ref t_moss, .ref t_rain, .ref t_mossThen, .ref t_when, .int t_needsDone, .int t_seenMany, .ref t_sights, .int t_seedNow, .int t_keptWall, .int t_keptWeek, .int t_keptBreaths, .int t_keptSeen, .ref t_keptKinds, .ref t_keptDeep, .ref t_keptLeans, .ref t_keptMoss, .ref t_keptSights, .long t_hash]))] U.heap ∧ mw_ev D cA U)) (vp_Si (fun v => v = r ∧ narrow .boolean (.int v) = .int v)) 0 0 (fun _ => False) := by
  unfold mX7_lacks at hM
  refine Met.ofW (cc := cX7_lacks) (maxL := 1) (ret := (some .boolean)) (by decide) rfl ?_
  intro p e s m args below meth c s₁ B hml hv
  obtain ⟨rfl, hP, hE⟩ := hv
  have hx := B.exec
  have hb := B.bytes
  have hr := B.returns
  have hts := atoms_spec (ws := wsX7_lacks) B.pre
  have hown : s.vm.findClass RX7 = some m.cls := findClass_of_methodNamed B.named
  have hlocks := B.notSynchronized
  have hK := hE.1
  have hl := lv_entry ([.ref t]) (n := 1) (Nat.le_of_ble_eq_true rfl)
  rw [lg_entry_eq]
  generalize (lg_sl ([.ref t]) ++ List.replicate (1 - (lg_sl ([.ref t])).length) Slot.unset).toArray = ls at hl ⊢
  have hl : lv_has ls 1 [(0, .ref t)] := hl
  refine mw_q (P := fun Q => W p l e (headSpec wsX7_lacks rmX7_lacks).room s m (([.ref t] : List Value).toArray) below meth c s.heap [] 0 0 Q (F0 m 0 ls [])) (fun Q hQ => ?_)
  refine lv_aload_n hx hb dX7_lacks_0 rfl (lv_at hl 0 rfl) ?_
  refine va_get (D := D) (ci := 7) (v := .int t_clauses) (C := RX7) (T := TX7) (N := 29) hx hb hts (fun _ h => List.mem_cons_of_mem _ (List.mem_append_right _ (h))) hown hK hP 0 rfl rfl 3 (by decide) (hts (.fieldLink RX7 88 "MossWallModel" "clauses" "I") (List.mem_cons_of_mem _ (List.mem_append_left _ (List.mem_of_getElem? (i := 0) rfl)))) (fun _ h9 => h9) rfl dX7_lacks_1 ?_
  refine lv_if_ne (tgt := 11) hx hb dX7_lacks_4 (by decide) (fun q1 => ?_) (fun q1 => ?_)
  · replace hM := mw_f hM q1
    refine lv_iconst (v := 0) hx hb dX7_lacks_11 (by decide) ?_
    obtain rfl := mw_o1 hM
    subst hQ
    exact W.zret hx hb hr rfl (fun t ht hW => ⟨_, rfl, ⟨rfl, rfl⟩, ht⟩) (fun q h => absurd h List.not_mem_nil) dX7_lacks_12
  · replace hM := mw_t hM q1
    refine lv_iconst (v := 1) hx hb dX7_lacks_7 (by decide) ?_
    refine lv_goto (tgt := 12) hx hb dX7_lacks_8 (by decide) ?_
    obtain rfl := mw_o1 hM
    subst hQ
    exact W.zret hx hb hr rfl (fun t ht hW => ⟨_, rfl, ⟨rfl, rfl⟩, ht⟩) (fun q h => absurd h List.not_mem_nil) dX7_lacks_12
def mX7_isClause (t_clauses : Int32) (p1 : Int32) : Option Int32 :=
  (mX7_in (Int32.toInt64 p1) 0 (Int32.toInt64 (t_clauses - 1))).bind fun r1 => some r1
abbrev rmX7_isClause : Room := ({ frames := 1, cells := 0, slots := 0, locals := 25 } : Room)
set_option maxHeartbeats 4000000 in
set_option maxRecDepth 100000 in
theorem kX7_isClause (l : Launch) (D : va_G) (cA : ClassId) (t t_page t_kinds t_deep t_leans t_moss t_rain t_mossThen t_when t_sights t_keptKinds t_keptDeep t_keptLeans t_keptMoss t_keptSights : Nat) (t_pageMany : Int32) (t_end : Int32) (t_clauses : Int32) (t_rains : Int32) (t_weekNext : Int32) (t_breaths : Int32) (t_wallsRead : Int32) (t_needsDone : Int32) (t_seenMany : Int32) (t_seedNow : Int32) (t_keptWall : Int32) (t_keptWeek : Int32) (t_keptBreaths : Int32) (t_keptSeen : Int32) (t_hash : Int64) (p1 : Int32) (r : Int32) (hM : mX7_isClause t_clauses p1 = some r) : Met l yX7_isClause wsX7_isClause rmX7_isClause (va_Pc [.ref t, .int p1] (fun U => va_P D vwCl [(t, .inr (7, [.ref t_page, .int t_pageMany, .int t_end, .int t_clauses, .int t_rains, .int t_weekNext, .int t_breaths, .int t_wallsRead, .ref t_kinds, .ref t_deep, .ref t_leans, .ref t_moss, .ref t_rain, .ref t_mossThen, .ref t_when, .int t_needsDone, .int t_seenMany, .ref t_sights, .int t_seedNow, .int t_keptWall, .int t_keptWeek, .int t_keptBreaths, .int t_keptSeen, .ref t_keptKinds, .ref t_keptDeep, .ref t_keptLeans, .ref t_keptMoss, .ref t_keptSights, .long t_hash]))] U.heap ∧ mw_ev D cA U)) (vp_Si (fun v => v = r ∧ narrow .boolean (.int v) = .int v)) 0 0 (fun _ => False) := by
  unfold mX7_isClause at hM
  refine Met.ofW (cc := cX7_isClause) (maxL := 2) (ret := (some .boolean)) (by decide) rfl ?_
  intro p e s m args below meth c s₁ B hml hv
  obtain ⟨rfl, hP, hE⟩ := hv
  have hx := B.exec
  have hb := B.bytes
  have hr := B.returns
  have hts := atoms_spec (ws := wsX7_isClause) B.pre
  have hown : s.vm.findClass RX7 = some m.cls := findClass_of_methodNamed B.named
  have hlocks := B.notSynchronized
  have hK := hE.1
  have hl := lv_entry ([.ref t, .int p1]) (n := 2) (Nat.le_of_ble_eq_true rfl)
  rw [lg_entry_eq]
  generalize (lg_sl ([.ref t, .int p1]) ++ List.replicate (2 - (lg_sl ([.ref t, .int p1])).length) Slot.unset).toArray = ls at hl ⊢
  have hl : lv_has ls 2 [(0, .ref t), (1, .int p1)] := hl
  refine mw_q (P := fun Q => W p l e (headSpec wsX7_isClause rmX7_isClause).room s m (([.ref t, .int p1] : List Value).toArray) below meth c s.heap [] 0 0 Q (F0 m 0 ls [])) (fun Q hQ => ?_)
  refine lv_iload_n hx hb dX7_isClause_0 rfl (lv_at hl 1 rfl) ?_
  refine lv_i2l (v := Int32.toInt64 p1) hx hb dX7_isClause_1 rfl ?_
  refine lv_lconst (v := 0) hx hb dX7_isClause_2 (by decide) ?_
  refine lv_aload_n hx hb dX7_isClause_3 rfl (lv_at hl 0 rfl) ?_
  refine va_get (D := D) (ci := 7) (v := .int t_clauses) (C := RX7) (T := TX7) (N := 29) hx hb hts (fun _ h => List.mem_cons_of_mem _ (List.mem_append_right _ (h))) hown hK hP 0 rfl rfl 3 (by decide) (hts (.fieldLink RX7 88 "MossWallModel" "clauses" "I") (List.mem_cons_of_mem _ (List.mem_append_left _ (List.mem_of_getElem? (i := 0) rfl)))) (fun _ h9 => h9) rfl dX7_isClause_4 ?_
  refine lv_iconst (v := 1) hx hb dX7_isClause_7 (by decide) ?_
  refine lv_isub hx hb dX7_isClause_8 ?_
  refine lv_i2l (v := Int32.toInt64 (t_clauses - 1)) hx hb dX7_isClause_9 rfl ?_
  obtain ⟨r1, h1, hM⟩ := mw_d1 hM
  have hPc := hP.sub (ws' := []) [] rfl
  refine vp_callSi (va_Run.run (va_runS (As := [.long (Int32.toInt64 p1), .long 0, .long (Int32.toInt64 (t_clauses - 1))]) (rest := []) ⟨hx, hb, hml, hown, hts⟩ (kX7_in l D cA (Int32.toInt64 p1) 0 (Int32.toInt64 (t_clauses - 1)) r1 h1) (va_cwS 3 hts gX7_isClause_X7_in rfl rfl rfl (by decide +kernel) ⟨Nat.le_of_ble_eq_true rfl, Nat.le_of_ble_eq_true rfl⟩) ⟨mw_fbR, mw_puR hPc hE⟩ rfl rfl hl.1 rfl (lv_room (Nat.le_of_ble_eq_true rfl)) dX7_isClause_10 ⟨Nat.zero_le _, Nat.zero_le _⟩)) (fun v_ e_ => ?_)
  obtain ⟨e_, b1⟩ := e_
  subst v_
  obtain rfl := mw_o1 hM
  subst hQ
  exact W.zret hx hb hr b1 (fun t ht hW => ⟨_, rfl, ⟨rfl, b1⟩, ht⟩) (fun q h => absurd h List.not_mem_nil) dX7_isClause_13
def mX7_growsBy (p1 : Int32) (p2 : Int32) : Option Int32 :=
  (if p1 = 1 then (if p2 ≤ 1 then some 0 else some (p2 - 1)) else (if p1 = 2 then (if p2 ≤ 0 then some 0 else some 1) else (if p1 = 3 then some (2 * p2) else (if p1 = 4 then (if p2 ≤ 0 then some 0 else some 1) else some p2))))
abbrev rmX7_growsBy : Room := ({ frames := 0, cells := 0, slots := 0, locals := 0 } : Room)
set_option maxHeartbeats 4000000 in
set_option maxRecDepth 100000 in
theorem kX7_growsBy (l : Launch) (D : va_G) (cA : ClassId) (p1 : Int32) (p2 : Int32) (r : Int32) (hM : mX7_growsBy p1 p2 = some r) : Met l yX7_growsBy wsX7_growsBy rmX7_growsBy (va_Pc [.int p1, .int p2] (fun U => va_P D vwCl [] U.heap ∧ mw_ev D cA U)) (vp_Si (fun v => v = r)) 0 0 (fun _ => False) := by
  unfold mX7_growsBy at hM
  refine Met.ofW (cc := cX7_growsBy) (maxL := 2) (ret := (some .int)) (by decide) rfl ?_
  intro p e s m args below meth c s₁ B hml hv
  obtain ⟨rfl, hP, hE⟩ := hv
  have hx := B.exec
  have hb := B.bytes
  have hr := B.returns
  have hts := atoms_spec (ws := wsX7_growsBy) B.pre
  have hown : s.vm.findClass RX7 = some m.cls := findClass_of_methodNamed B.named
  have hlocks := B.notSynchronized
  have hK := hE.1
  have hl := lv_entry ([.int p1, .int p2]) (n := 2) (Nat.le_of_ble_eq_true rfl)
  rw [lg_entry_eq]
  generalize (lg_sl ([.int p1, .int p2]) ++ List.replicate (2 - (lg_sl ([.int p1, .int p2])).length) Slot.unset).toArray = ls at hl ⊢
  have hl : lv_has ls 2 [(0, .int p1), (1, .int p2)] := hl
  refine mw_q (P := fun Q => W p l e (headSpec wsX7_growsBy rmX7_growsBy).room s m (([.int p1, .int p2] : List Value).toArray) below meth c s.heap [] 0 0 Q (F0 m 0 ls [])) (fun Q hQ => ?_)
  refine lv_iload_n hx hb dX7_growsBy_0 rfl (lv_at hl 0 rfl) ?_
  by_cases q1 : p1 = 1
  · replace hM := mw_t hM q1
    refine mw_tab (off := 31) (tgt := 32) hx hb q1 dX7_growsBy_1 (by decide) (by decide) (by decide) (by decide) ?_
    refine lv_iload_n hx hb dX7_growsBy_32 rfl (lv_at hl 1 rfl) ?_
    refine lv_iconst (v := 1) hx hb dX7_growsBy_33 (by decide) ?_
    refine lv_icmp_le (tgt := 43) hx hb dX7_growsBy_34 (by decide) (fun q2 => ?_) (fun q2 => ?_)
    · replace hM := mw_t hM q2
      refine lv_iconst (v := 0) hx hb dX7_growsBy_43 (by decide) ?_
      obtain rfl := mw_o1 hM
      subst hQ
      exact W.iret hx hb hr (fun t ht hW => ⟨_, rfl, rfl, ht⟩) (fun q h => absurd h List.not_mem_nil) dX7_growsBy_44
    · replace hM := mw_f hM q2
      refine lv_iload_n hx hb dX7_growsBy_37 rfl (lv_at hl 1 rfl) ?_
      refine lv_iconst (v := 1) hx hb dX7_growsBy_38 (by decide) ?_
      refine lv_isub hx hb dX7_growsBy_39 ?_
      refine lv_goto (tgt := 44) hx hb dX7_growsBy_40 (by decide) ?_
      obtain rfl := mw_o1 hM
      subst hQ
      exact W.iret hx hb hr (fun t ht hW => ⟨_, rfl, rfl, ht⟩) (fun q h => absurd h List.not_mem_nil) dX7_growsBy_44
  replace hM := mw_f hM q1
  by_cases q3 : p1 = 2
  · replace hM := mw_t hM q3
    refine mw_tab (off := 44) (tgt := 45) hx hb q3 dX7_growsBy_1 (by decide) (by decide) (by decide) (by decide) ?_
    refine lv_iload_n hx hb dX7_growsBy_45 rfl (lv_at hl 1 rfl) ?_
    refine lv_if_le (tgt := 53) hx hb dX7_growsBy_46 (by decide) (fun q4 => ?_) (fun q4 => ?_)
    · replace hM := mw_t hM q4
      refine lv_iconst (v := 0) hx hb dX7_growsBy_53 (by decide) ?_
      obtain rfl := mw_o1 hM
      subst hQ
      exact W.iret hx hb hr (fun t ht hW => ⟨_, rfl, rfl, ht⟩) (fun q h => absurd h List.not_mem_nil) dX7_growsBy_54
    · replace hM := mw_f hM q4
      refine lv_iconst (v := 1) hx hb dX7_growsBy_49 (by decide) ?_
      refine lv_goto (tgt := 54) hx hb dX7_growsBy_50 (by decide) ?_
      obtain rfl := mw_o1 hM
      subst hQ
      exact W.iret hx hb hr (fun t ht hW => ⟨_, rfl, rfl, ht⟩) (fun q h => absurd h List.not_mem_nil) dX7_growsBy_54
  replace hM := mw_f hM q3
  by_cases q5 : p1 = 3
  · replace hM := mw_t hM q5
    refine mw_tab (off := 54) (tgt := 55) hx hb q5 dX7_growsBy_1 (by decide) (by decide) (by decide) (by decide) ?_
    refine lv_iconst (v := 2) hx hb dX7_growsBy_55 (by decide) ?_
    refine lv_iload_n hx hb dX7_growsBy_56 rfl (lv_at hl 1 rfl) ?_
    refine lv_imul hx hb dX7_growsBy_57 ?_
    obtain rfl := mw_o1 hM
    subst hQ
    exact W.iret hx hb hr (fun t ht hW => ⟨_, rfl, rfl, ht⟩) (fun q h => absurd h List.not_mem_nil) dX7_growsBy_58
  replace hM := mw_f hM q5
  by_cases q6 : p1 = 4
  · replace hM := mw_t hM q6
    refine mw_tab (off := 44) (tgt := 45) hx hb q6 dX7_growsBy_1 (by decide) (by decide) (by decide) (by decide) ?_
    refine lv_iload_n hx hb dX7_growsBy_45 rfl (lv_at hl 1 rfl) ?_
    refine lv_if_le (tgt := 53) hx hb dX7_growsBy_46 (by decide) (fun q7 => ?_) (fun q7 => ?_)
    · replace hM := mw_t hM q7
      refine lv_iconst (v := 0) hx hb dX7_growsBy_53 (by decide) ?_
      obtain rfl := mw_o1 hM
      subst hQ
      exact W.iret hx hb hr (fun t ht hW => ⟨_, rfl, rfl, ht⟩) (fun q h => absurd h List.not_mem_nil) dX7_growsBy_54
    · replace hM := mw_f hM q7
      refine lv_iconst (v := 1) hx hb dX7_growsBy_49 (by decide) ?_
      refine lv_goto (tgt := 54) hx hb dX7_growsBy_50 (by decide) ?_
      obtain rfl := mw_o1 hM
      subst hQ
      exact W.iret hx hb hr (fun t ht hW => ⟨_, rfl, rfl, ht⟩) (fun q h => absurd h List.not_mem_nil) dX7_growsBy_54
  replace hM := mw_f hM q6
  have u1 : ¬ (p1 : Int32).toInt = 1 := lv_neT q1 (by decide)
  have u3 : ¬ (p1 : Int32).toInt = 2 := lv_neT q3 (by decide)
  have u5 : ¬ (p1 : Int32).toInt = 3 := lv_neT q5 (by decide)
  have u6 : ¬ (p1 : Int32).toInt = 4 := lv_neT q6 (by decide)
  refine lv_tableOut (x := p1) (tgt := 59) hx hb dX7_growsBy_1 (by omega) (by decide) ?_
  refine lv_iload_n hx hb dX7_growsBy_59 rfl (lv_at hl 1 rfl) ?_
  obtain rfl := mw_o1 hM
  subst hQ
  exact W.iret hx hb hr (fun t ht hW => ⟨_, rfl, rfl, ht⟩) (fun q h => absurd h List.not_mem_nil) dX7_growsBy_60
def mX7_isClosed (c_t_deep : Nat → Int32) (n_p1 : Nat) (c_p1 : Nat → Int32) (p2 : Int32) : Option Int32 :=
  (mw_rd c_p1 n_p1 p2).bind fun e1 => (mw_rd c_t_deep 6 p2).bind fun e2 => (if e1 < e2 then some 0 else some 1)
abbrev rmX7_isClosed : Room := ({ frames := 0, cells := 0, slots := 0, locals := 0 } : Room)
set_option maxHeartbeats 4000000 in
set_option maxRecDepth 100000 in
theorem kX7_isClosed (l : Launch) (D : va_G) (cA : ClassId) (t p1 t_page t_kinds t_deep t_leans t_moss t_rain t_mossThen t_when t_sights t_keptKinds t_keptDeep t_keptLeans t_keptMoss t_keptSights : Nat) (t_pageMany : Int32) (t_end : Int32) (t_clauses : Int32) (t_rains : Int32) (t_weekNext : Int32) (t_breaths : Int32) (t_wallsRead : Int32) (t_needsDone : Int32) (t_seenMany : Int32) (t_seedNow : Int32) (t_keptWall : Int32) (t_keptWeek : Int32) (t_keptBreaths : Int32) (t_keptSeen : Int32) (t_hash : Int64) (c_t_deep : Nat → Int32) (n_p1 : Nat) (c_p1 : Nat → Int32) (p2 : Int32) (r : Int32) (hM : mX7_isClosed c_t_deep n_p1 c_p1 p2 = some r) : Met l yX7_isClosed wsX7_isClosed rmX7_isClosed (va_Pc [.ref t, .ref p1, .int p2] (fun U => va_P D vwCl [(t, .inr (7, [.ref t_page, .int t_pageMany, .int t_end, .int t_clauses, .int t_rains, .int t_weekNext, .int t_breaths, .int t_wallsRead, .ref t_kinds, .ref t_deep, .ref t_leans, .ref t_moss, .ref t_rain, .ref t_mossThen, .ref t_when, .int t_needsDone, .int t_seenMany, .ref t_sights, .int t_seedNow, .int t_keptWall, .int t_keptWeek, .int t_keptBreaths, .int t_keptSeen, .ref t_keptKinds, .ref t_keptDeep, .ref t_keptLeans, .ref t_keptMoss, .ref t_keptSights, .long t_hash])), (t_deep, .inl (cA, 6, .inl c_t_deep)), (p1, .inl (cA, n_p1, .inl c_p1))] U.heap ∧ mw_ev D cA U)) (vp_Si (fun v => v = r ∧ narrow .boolean (.int v) = .int v)) 0 0 (fun _ => False) := by
  unfold mX7_isClosed at hM
  refine Met.ofW (cc := cX7_isClosed) (maxL := 3) (ret := (some .boolean)) (by decide) rfl ?_
  intro p e s m args below meth c s₁ B hml hv
  obtain ⟨rfl, hP, hE⟩ := hv
  have hx := B.exec
  have hb := B.bytes
  have hr := B.returns
  have hts := atoms_spec (ws := wsX7_isClosed) B.pre
  have hown : s.vm.findClass RX7 = some m.cls := findClass_of_methodNamed B.named
  have hlocks := B.notSynchronized
  have hK := hE.1
  have hl := lv_entry ([.ref t, .ref p1, .int p2]) (n := 3) (Nat.le_of_ble_eq_true rfl)
  rw [lg_entry_eq]
  generalize (lg_sl ([.ref t, .ref p1, .int p2]) ++ List.replicate (3 - (lg_sl ([.ref t, .ref p1, .int p2])).length) Slot.unset).toArray = ls at hl ⊢
  have hl : lv_has ls 3 [(0, .ref t), (1, .ref p1), (2, .int p2)] := hl
  refine mw_q (P := fun Q => W p l e (headSpec wsX7_isClosed rmX7_isClosed).room s m (([.ref t, .ref p1, .int p2] : List Value).toArray) below meth c s.heap [] 0 0 Q (F0 m 0 ls [])) (fun Q hQ => ?_)
  refine lv_aload_n hx hb dX7_isClosed_0 rfl (lv_at hl 1 rfl) ?_
  refine lv_iload_n hx hb dX7_isClosed_1 rfl (lv_at hl 2 rfl) ?_
  obtain ⟨e1, h1, hM⟩ := mw_d1 hM
  refine mw_iald hx hb hK hP 2 0 rfl rfl h1 dX7_isClosed_2 ?_
  refine lv_aload_n hx hb dX7_isClosed_3 rfl (lv_at hl 0 rfl) ?_
  refine va_get (D := D) (ci := 7) (v := .ref t_deep) (C := RX7) (T := TX7) (N := 29) hx hb hts (fun _ h => List.mem_cons_of_mem _ (List.mem_append_right _ (h))) hown hK hP 0 rfl rfl 9 (by decide) (hts (.fieldLink RX7 16 "MossWallModel" "deep" "[I") (List.mem_cons_of_mem _ (List.mem_append_left _ (List.mem_of_getElem? (i := 0) rfl)))) (fun _ h9 => h9) rfl dX7_isClosed_4 ?_
  refine lv_iload_n hx hb dX7_isClosed_7 rfl (lv_at hl 2 rfl) ?_
  obtain ⟨e2, h2, hM⟩ := mw_d1 hM
  refine mw_iald hx hb hK hP 1 0 rfl rfl h2 dX7_isClosed_8 ?_
  refine lv_icmp_lt (tgt := 16) hx hb dX7_isClosed_9 (by decide) (fun q3 => ?_) (fun q3 => ?_)
  · replace hM := mw_t hM q3
    refine lv_iconst (v := 0) hx hb dX7_isClosed_16 (by decide) ?_
    obtain rfl := mw_o1 hM
    subst hQ
    exact W.zret hx hb hr rfl (fun t ht hW => ⟨_, rfl, ⟨rfl, rfl⟩, ht⟩) (fun q h => absurd h List.not_mem_nil) dX7_isClosed_17
  · replace hM := mw_f hM q3
    refine lv_iconst (v := 1) hx hb dX7_isClosed_12 (by decide) ?_
    refine lv_goto (tgt := 17) hx hb dX7_isClosed_13 (by decide) ?_
    obtain rfl := mw_o1 hM
    subst hQ
    exact W.zret hx hb hr rfl (fun t ht hW => ⟨_, rfl, ⟨rfl, rfl⟩, ht⟩) (fun q h => absurd h List.not_mem_nil) dX7_isClosed_17
def mX7_closedBits_L1 (t_clauses : Int32) (c_t_deep : Nat → Int32) (n_p1 : Nat) (c_p1 : Nat → Int32) (k1_37 : Int32 → Int32 → Option Int32) : Nat → Int32 → Int32 → Option Int32
  | 0, _, _ => none
  | n1 + 1, x3_1, x2_1 =>
    (if t_clauses ≤ x3_1 then k1_37 x3_1 x2_1 else (mX7_isClosed c_t_deep n_p1 c_p1 x3_1).bind fun r2 => (if r2 = 0 then mX7_closedBits_L1 t_clauses c_t_deep n_p1 c_p1 k1_37 n1 (x3_1 + 1) (x2_1 ||| 0) else mX7_closedBits_L1 t_clauses c_t_deep n_p1 c_p1 k1_37 n1 (x3_1 + 1) (x2_1 ||| (1 <<< (x3_1 &&& 31)))))
def mX7_closedBits (t_clauses : Int32) (c_t_deep : Nat → Int32) (n_p1 : Nat) (c_p1 : Nat → Int32) : Option Int32 :=
  mX7_closedBits_L1 t_clauses c_t_deep n_p1 c_p1 (fun (x3_1 : Int32) (x2_1 : Int32) => some x2_1) 300 0 0
abbrev rmX7_closedBits : Room := ({ frames := 1, cells := 0, slots := 0, locals := 22 } : Room)
set_option maxHeartbeats 4000000 in
set_option maxRecDepth 100000 in
theorem kX7_closedBits (l : Launch) (D : va_G) (cA : ClassId) (t p1 t_page t_kinds t_deep t_leans t_moss t_rain t_mossThen t_when t_sights t_keptKinds t_keptDeep t_keptLeans t_keptMoss t_keptSights : Nat) (t_pageMany : Int32) (t_end : Int32) (t_clauses : Int32) (t_rains : Int32) (t_weekNext : Int32) (t_breaths : Int32) (t_wallsRead : Int32) (t_needsDone : Int32) (t_seenMany : Int32) (t_seedNow : Int32) (t_keptWall : Int32) (t_keptWeek : Int32) (t_keptBreaths : Int32) (t_keptSeen : Int32) (t_hash : Int64) (c_t_deep : Nat → Int32) (n_p1 : Nat) (c_p1 : Nat → Int32) (r : Int32) (hM : mX7_closedBits t_clauses c_t_deep n_p1 c_p1 = some r) : Met l yX7_closedBits wsX7_closedBits rmX7_closedBits (va_Pc [.ref t, .ref p1] (fun U => va_P D vwCl [(t, .inr (7, [.ref t_page, .int t_pageMany, .int t_end, .int t_clauses, .int t_rains, .int t_weekNext, .int t_breaths, .int t_wallsRead, .ref t_kinds, .ref t_deep, .ref t_leans, .ref t_moss, .ref t_rain, .ref t_mossThen, .ref t_when, .int t_needsDone, .int t_seenMany, .ref t_sights, .int t_seedNow, .int t_keptWall, .int t_keptWeek, .int t_keptBreaths, .int t_keptSeen, .ref t_keptKinds, .ref t_keptDeep, .ref t_keptLeans, .ref t_keptMoss, .ref t_keptSights, .long t_hash])), (t_deep, .inl (cA, 6, .inl c_t_deep)), (p1, .inl (cA, n_p1, .inl c_p1))] U.heap ∧ mw_ev D cA U)) (vp_Si (fun v => v = r)) 0 0 (fun _ => False) := by
  unfold mX7_closedBits at hM
  refine Met.ofW (cc := cX7_closedBits) (maxL := 4) (ret := (some .int)) (by decide) rfl ?_
  intro p e s m args below meth c s₁ B hml hv
  obtain ⟨rfl, hP, hE⟩ := hv
  have hx := B.exec
  have hb := B.bytes
  have hr := B.returns
  have hts := atoms_spec (ws := wsX7_closedBits) B.pre
  have hown : s.vm.findClass RX7 = some m.cls := findClass_of_methodNamed B.named
  have hlocks := B.notSynchronized
  have hK := hE.1
  have hl := lv_entry ([.ref t, .ref p1]) (n := 4) (Nat.le_of_ble_eq_true rfl)
  rw [lg_entry_eq]
  generalize (lg_sl ([.ref t, .ref p1]) ++ List.replicate (4 - (lg_sl ([.ref t, .ref p1])).length) Slot.unset).toArray = ls at hl ⊢
  have hl : lv_has ls 4 [(0, .ref t), (1, .ref p1)] := hl
  refine mw_q (P := fun Q => W p l e (headSpec wsX7_closedBits rmX7_closedBits).room s m (([.ref t, .ref p1] : List Value).toArray) below meth c s.heap [] 0 0 Q (F0 m 0 ls [])) (fun Q hQ => ?_)
  refine lv_iconst (v := 0) hx hb dX7_closedBits_0 (by decide) ?_
  refine lv_istore_n (lv' := [(2, .int 0), (0, .ref t), (1, .ref p1)]) hx hb dX7_closedBits_1 rfl hl (by decide) rfl (fun ls hl => ?_)
  refine lv_iconst (v := 0) hx hb dX7_closedBits_2 (by decide) ?_
  refine lv_istore_n (lv' := [(3, .int 0), (2, .int 0), (0, .ref t), (1, .ref p1)]) hx hb dX7_closedBits_3 rfl hl (by decide) rfl (fun ls hl => ?_)
  obtain ⟨k1_37, jk1_37⟩ : ∃ k : Int32 → Int32 → Option Int32, k = fun (x3_1 : Int32) (x2_1 : Int32) => some x2_1 := ⟨_, rfl⟩
  have Ek1_37 : ∀ (x3_1 : Int32) (x2_1 : Int32) (ls : Array Slot), lv_has ls 4 [(3, .int x3_1), (2, .int x2_1), (0, .ref t), (1, .ref p1)] → k1_37 x3_1 x2_1 = some r → W p l e (headSpec wsX7_closedBits rmX7_closedBits).room s m (([.ref t, .ref p1] : List Value).toArray) below meth c s.heap [] 0 0 Q (F0 m 37 ls []) := by
      intro x3_1 x2_1 ls hl hM
      rw [jk1_37] at hM
      refine lv_iload_n hx hb dX7_closedBits_37 rfl (lv_at hl 1 rfl) ?_
      obtain rfl := mw_o1 hM
      subst hQ
      exact W.iret hx hb hr (fun t ht hW => ⟨_, rfl, rfl, ht⟩) (fun q h => absurd h List.not_mem_nil) dX7_closedBits_38
  have L1 : ∀ (n1 : Nat) (x3_1 : Int32) (x2_1 : Int32) (ls : Array Slot), lv_has ls 4 [(3, .int x3_1), (2, .int x2_1), (0, .ref t), (1, .ref p1)] → mX7_closedBits_L1 t_clauses c_t_deep n_p1 c_p1 k1_37 n1 x3_1 x2_1 = some r → W p l e (headSpec wsX7_closedBits rmX7_closedBits).room s m (([.ref t, .ref p1] : List Value).toArray) below meth c s.heap [] 0 0 Q (F0 m 4 ls []) := by
      intro n1
      induction n1 with
      | zero =>
        intro x3_1 x2_1 ls hl hM
        rw [mX7_closedBits_L1] at hM
        exact mw_none hM
      | succ n1 ih1 =>
        intro x3_1 x2_1 ls hl hM
        rw [mX7_closedBits_L1] at hM
        refine lv_iload_n hx hb dX7_closedBits_4 rfl (lv_at hl 0 rfl) ?_
        refine lv_aload_n hx hb dX7_closedBits_5 rfl (lv_at hl 2 rfl) ?_
        refine va_get (D := D) (ci := 7) (v := .int t_clauses) (C := RX7) (T := TX7) (N := 29) hx hb hts (fun _ h => List.mem_cons_of_mem _ (List.mem_append_right _ (h))) hown hK hP 0 rfl rfl 3 (by decide) (hts (.fieldLink RX7 88 "MossWallModel" "clauses" "I") (List.mem_cons_of_mem _ (List.mem_append_left _ (List.mem_of_getElem? (i := 0) rfl)))) (fun _ h9 => h9) rfl dX7_closedBits_6 ?_
        refine lv_icmp_ge (tgt := 37) hx hb dX7_closedBits_9 (by decide) (fun q1 => ?_) (fun q1 => ?_)
        · replace hM := mw_t hM q1
          exact Ek1_37 x3_1 x2_1 _ (lv_sub hl [0, 1, 2, 3] rfl) hM
        · replace hM := mw_f hM q1
          refine lv_iload_n hx hb dX7_closedBits_12 rfl (lv_at hl 1 rfl) ?_
          refine lv_aload_n hx hb dX7_closedBits_13 rfl (lv_at hl 2 rfl) ?_
          refine lv_aload_n hx hb dX7_closedBits_14 rfl (lv_at hl 3 rfl) ?_
          refine lv_iload_n hx hb dX7_closedBits_15 rfl (lv_at hl 0 rfl) ?_
          obtain ⟨r2, h2, hM⟩ := mw_d1 hM
          have hPc := hP.sub (ws' := [(t, .inr (7, [.ref t_page, .int t_pageMany, .int t_end, .int t_clauses, .int t_rains, .int t_weekNext, .int t_breaths, .int t_wallsRead, .ref t_kinds, .ref t_deep, .ref t_leans, .ref t_moss, .ref t_rain, .ref t_mossThen, .ref t_when, .int t_needsDone, .int t_seenMany, .ref t_sights, .int t_seedNow, .int t_keptWall, .int t_keptWeek, .int t_keptBreaths, .int t_keptSeen, .ref t_keptKinds, .ref t_keptDeep, .ref t_keptLeans, .ref t_keptMoss, .ref t_keptSights, .long t_hash])), (t_deep, .inl (cA, 6, .inl c_t_deep)), (p1, .inl (cA, n_p1, .inl c_p1))]) [0, 1, 2] rfl
          refine vp_callSi (va_Run.run (va_runV (As := [.ref p1, .int x3_1]) (rest := [.int x2_1]) ⟨hx, hb, hml, hown, hts⟩ (kX7_isClosed l D cA t p1 t_page t_kinds t_deep t_leans t_moss t_rain t_mossThen t_when t_sights t_keptKinds t_keptDeep t_keptLeans t_keptMoss t_keptSights t_pageMany t_end t_clauses t_rains t_weekNext t_breaths t_wallsRead t_needsDone t_seenMany t_seedNow t_keptWall t_keptWeek t_keptBreaths t_keptSeen t_hash c_t_deep n_p1 c_p1 x3_1 r2 h2) (cwV 2 hts gX7_closedBits_X7_isClosed rfl rfl rfl (by decide +kernel) ⟨Nat.le_of_ble_eq_true rfl, Nat.le_of_ble_eq_true rfl⟩) ⟨mw_fbR, va_recv hK hP (ci := 7) (q0 := 0) rfl rfl, mw_puR hPc hE⟩ rfl rfl hl.1 rfl (lv_room (Nat.le_of_ble_eq_true rfl)) dX7_closedBits_16 ⟨Nat.zero_le _, Nat.zero_le _⟩)) (fun v_ e_ => ?_)
          obtain ⟨e_, b2⟩ := e_
          subst v_
          refine lv_if_eq (tgt := 28) hx hb dX7_closedBits_19 (by decide) (fun q3 => ?_) (fun q3 => ?_)
          · replace hM := mw_t hM q3
            refine lv_iconst (v := 0) hx hb dX7_closedBits_28 (by decide) ?_
            refine lv_ior hx hb dX7_closedBits_29 ?_
            refine lv_istore_n (lv' := [(2, .int (x2_1 ||| 0)), (3, .int x3_1), (0, .ref t), (1, .ref p1)]) hx hb dX7_closedBits_30 rfl hl (by decide) rfl (fun ls hl => ?_)
            refine lv_iinc (v := x3_1 + 1) (lv' := [(3, .int (x3_1 + 1)), (2, .int (x2_1 ||| 0)), (0, .ref t), (1, .ref p1)]) hx hb dX7_closedBits_31 hl (k := 1) rfl (by first | rfl | decide) (by decide) rfl (fun ls hl => ?_)
            refine lv_goto (tgt := 4) hx hb dX7_closedBits_34 (by decide) ?_
            exact ih1 (x3_1 + 1) (x2_1 ||| 0) _ (lv_sub hl [0, 1, 2, 3] rfl) hM
          · replace hM := mw_f hM q3
            refine lv_iconst (v := 1) hx hb dX7_closedBits_22 (by decide) ?_
            refine lv_iload_n hx hb dX7_closedBits_23 rfl (lv_at hl 0 rfl) ?_
            refine lv_ishl hx hb dX7_closedBits_24 ?_
            refine lv_goto (tgt := 29) hx hb dX7_closedBits_25 (by decide) ?_
            refine lv_ior hx hb dX7_closedBits_29 ?_
            refine lv_istore_n (lv' := [(2, .int (x2_1 ||| (1 <<< (x3_1 &&& 31)))), (3, .int x3_1), (0, .ref t), (1, .ref p1)]) hx hb dX7_closedBits_30 rfl hl (by decide) rfl (fun ls hl => ?_)
            refine lv_iinc (v := x3_1 + 1) (lv' := [(3, .int (x3_1 + 1)), (2, .int (x2_1 ||| (1 <<< (x3_1 &&& 31)))), (0, .ref t), (1, .ref p1)]) hx hb dX7_closedBits_31 hl (k := 1) rfl (by first | rfl | decide) (by decide) rfl (fun ls hl => ?_)
            refine lv_goto (tgt := 4) hx hb dX7_closedBits_34 (by decide) ?_
            exact ih1 (x3_1 + 1) (x2_1 ||| (1 <<< (x3_1 &&& 31))) _ (lv_sub hl [0, 1, 2, 3] rfl) hM
  exact L1 300 0 0 _ hl (by rw [jk1_37]; exact hM)
def mX7_grow_L1 (t_clauses : Int32) (c_t_kinds : Nat → Int32) (c_t_leans : Nat → Int32) (n_p1 : Nat) (p2 : Int32) (r1 : Int32) (k1_102 : Int32 → (Nat → Int32) → Option ((Nat → Int32))) : Nat → Int32 → (Nat → Int32) → Option ((Nat → Int32))
  | 0, _, _ => none
  | n1 + 1, x4_1, y1_p1 =>
    (if t_clauses ≤ x4_1 then k1_102 x4_1 y1_p1 else (mw_rd c_t_leans 6 x4_1).bind fun e3 => (if e3 = ((-1)) then (mw_rd y1_p1 n_p1 x4_1).bind fun e5 => (mw_rd c_t_kinds 6 x4_1).bind fun e6 => (mX7_growsBy e6 p2).bind fun r7 => (if (e5 + r7) ≤ 99 then (mw_wr y1_p1 n_p1 x4_1 (e5 + r7)).bind fun a9_p1 => mX7_grow_L1 t_clauses c_t_kinds c_t_leans n_p1 p2 r1 k1_102 n1 (x4_1 + 1) a9_p1 else (mw_wr y1_p1 n_p1 x4_1 99).bind fun a10_p1 => mX7_grow_L1 t_clauses c_t_kinds c_t_leans n_p1 p2 r1 k1_102 n1 (x4_1 + 1) a10_p1) else (mw_rd c_t_leans 6 x4_1).bind fun e11 => (if ((r1 >>> (e11 &&& 31)) &&& 1) = 1 then (mw_rd y1_p1 n_p1 x4_1).bind fun e17 => (mw_rd c_t_kinds 6 x4_1).bind fun e18 => (mX7_growsBy e18 p2).bind fun r19 => (if (e17 + r19) ≤ 99 then (mw_wr y1_p1 n_p1 x4_1 (e17 + r19)).bind fun a21_p1 => mX7_grow_L1 t_clauses c_t_kinds c_t_leans n_p1 p2 r1 k1_102 n1 (x4_1 + 1) a21_p1 else (mw_wr y1_p1 n_p1 x4_1 99).bind fun a22_p1 => mX7_grow_L1 t_clauses c_t_kinds c_t_leans n_p1 p2 r1 k1_102 n1 (x4_1 + 1) a22_p1) else (mw_rd y1_p1 n_p1 x4_1).bind fun e13 => (if (e13 + 0) ≤ 99 then (mw_wr y1_p1 n_p1 x4_1 (e13 + 0)).bind fun a15_p1 => mX7_grow_L1 t_clauses c_t_kinds c_t_leans n_p1 p2 r1 k1_102 n1 (x4_1 + 1) a15_p1 else (mw_wr y1_p1 n_p1 x4_1 99).bind fun a16_p1 => mX7_grow_L1 t_clauses c_t_kinds c_t_leans n_p1 p2 r1 k1_102 n1 (x4_1 + 1) a16_p1))))
def mX7_grow (t_clauses : Int32) (c_t_kinds : Nat → Int32) (c_t_deep : Nat → Int32) (c_t_leans : Nat → Int32) (n_p1 : Nat) (c_p1 : Nat → Int32) (p2 : Int32) : Option ((Nat → Int32)) :=
  (mX7_closedBits t_clauses c_t_deep n_p1 c_p1).bind fun r1 => mX7_grow_L1 t_clauses c_t_kinds c_t_leans n_p1 p2 r1 (fun (x4_1 : Int32) (y1_p1 : Nat → Int32) => some y1_p1) 300 0 c_p1
abbrev rmX7_grow : Room := ({ frames := 2, cells := 0, slots := 0, locals := 45 } : Room)
set_option maxHeartbeats 4000000 in
set_option maxRecDepth 100000 in
theorem kX7_grow (l : Launch) (D : va_G) (cA : ClassId) (t p1 t_page t_kinds t_deep t_leans t_moss t_rain t_mossThen t_when t_sights t_keptKinds t_keptDeep t_keptLeans t_keptMoss t_keptSights : Nat) (sz : Nat) (t_pageMany : Int32) (t_end : Int32) (t_clauses : Int32) (t_rains : Int32) (t_weekNext : Int32) (t_breaths : Int32) (t_wallsRead : Int32) (t_needsDone : Int32) (t_seenMany : Int32) (t_seedNow : Int32) (t_keptWall : Int32) (t_keptWeek : Int32) (t_keptBreaths : Int32) (t_keptSeen : Int32) (t_hash : Int64) (c_t_kinds : Nat → Int32) (c_t_deep : Nat → Int32) (c_t_leans : Nat → Int32) (n_p1 : Nat) (c_p1 : Nat → Int32) (p2 : Int32) (o_c_p1 : Nat → Int32) (hM : mX7_grow t_clauses c_t_kinds c_t_deep c_t_leans n_p1 c_p1 p2 = some o_c_p1) : Met l yX7_grow wsX7_grow rmX7_grow (va_Pc [.ref t, .ref p1, .int p2] (fun U => U.heap.size = sz ∧ va_P D vwCl [(t, .inr (7, [.ref t_page, .int t_pageMany, .int t_end, .int t_clauses, .int t_rains, .int t_weekNext, .int t_breaths, .int t_wallsRead, .ref t_kinds, .ref t_deep, .ref t_leans, .ref t_moss, .ref t_rain, .ref t_mossThen, .ref t_when, .int t_needsDone, .int t_seenMany, .ref t_sights, .int t_seedNow, .int t_keptWall, .int t_keptWeek, .int t_keptBreaths, .int t_keptSeen, .ref t_keptKinds, .ref t_keptDeep, .ref t_keptLeans, .ref t_keptMoss, .ref t_keptSights, .long t_hash])), (t_kinds, .inl (cA, 6, .inl c_t_kinds)), (t_deep, .inl (cA, 6, .inl c_t_deep)), (t_leans, .inl (cA, 6, .inl c_t_leans)), (p1, .inl (cA, n_p1, .inl c_p1))] U.heap ∧ mw_ev D cA U ∧ va_D (fun _ => True) [(t, .inr (7, [.ref t_page, .int t_pageMany, .int t_end, .int t_clauses, .int t_rains, .int t_weekNext, .int t_breaths, .int t_wallsRead, .ref t_kinds, .ref t_deep, .ref t_leans, .ref t_moss, .ref t_rain, .ref t_mossThen, .ref t_when, .int t_needsDone, .int t_seenMany, .ref t_sights, .int t_seedNow, .int t_keptWall, .int t_keptWeek, .int t_keptBreaths, .int t_keptSeen, .ref t_keptKinds, .ref t_keptDeep, .ref t_keptLeans, .ref t_keptMoss, .ref t_keptSights, .long t_hash])), (t_kinds, .inl (cA, 6, .inl c_t_kinds)), (t_deep, .inl (cA, 6, .inl c_t_deep)), (t_leans, .inl (cA, 6, .inl c_t_leans)), (p1, .inl (cA, n_p1, .inl c_p1))])) (va_Qv (fun (_ : Unit) => True) (fun (_ : Unit) w_ => va_P D vwCl [(t, .inr (7, [.ref t_page, .int t_pageMany, .int t_end, .int t_clauses, .int t_rains, .int t_weekNext, .int t_breaths, .int t_wallsRead, .ref t_kinds, .ref t_deep, .ref t_leans, .ref t_moss, .ref t_rain, .ref t_mossThen, .ref t_when, .int t_needsDone, .int t_seenMany, .ref t_sights, .int t_seedNow, .int t_keptWall, .int t_keptWeek, .int t_keptBreaths, .int t_keptSeen, .ref t_keptKinds, .ref t_keptDeep, .ref t_keptLeans, .ref t_keptMoss, .ref t_keptSights, .long t_hash])), (t_kinds, .inl (cA, 6, .inl c_t_kinds)), (t_deep, .inl (cA, 6, .inl c_t_deep)), (t_leans, .inl (cA, 6, .inl c_t_leans)), (p1, .inl (cA, n_p1, .inl o_c_p1))] w_.heap ∧ va_D (va_A [(t, .inr (7, [.ref t_page, .int t_pageMany, .int t_end, .int t_clauses, .int t_rains, .int t_weekNext, .int t_breaths, .int t_wallsRead, .ref t_kinds, .ref t_deep, .ref t_leans, .ref t_moss, .ref t_rain, .ref t_mossThen, .ref t_when, .int t_needsDone, .int t_seenMany, .ref t_sights, .int t_seedNow, .int t_keptWall, .int t_keptWeek, .int t_keptBreaths, .int t_keptSeen, .ref t_keptKinds, .ref t_keptDeep, .ref t_keptLeans, .ref t_keptMoss, .ref t_keptSights, .long t_hash])), (t_kinds, .inl (cA, 6, .inl c_t_kinds)), (t_deep, .inl (cA, 6, .inl c_t_deep)), (t_leans, .inl (cA, 6, .inl c_t_leans)), (p1, .inl (cA, n_p1, .inl c_p1))] sz) [(t, .inr (7, [.ref t_page, .int t_pageMany, .int t_end, .int t_clauses, .int t_rains, .int t_weekNext, .int t_breaths, .int t_wallsRead, .ref t_kinds, .ref t_deep, .ref t_leans, .ref t_moss, .ref t_rain, .ref t_mossThen, .ref t_when, .int t_needsDone, .int t_seenMany, .ref t_sights, .int t_seedNow, .int t_keptWall, .int t_keptWeek, .int t_keptBreaths, .int t_keptSeen, .ref t_keptKinds, .ref t_keptDeep, .ref t_keptLeans, .ref t_keptMoss, .ref t_keptSights, .long t_hash])), (t_kinds, .inl (cA, 6, .inl c_t_kinds)), (t_deep, .inl (cA, 6, .inl c_t_deep)), (t_leans, .inl (cA, 6, .inl c_t_leans)), (p1, .inl (cA, n_p1, .inl o_c_p1))]) (va_A [(t, .inr (7, [.ref t_page, .int t_pageMany, .int t_end, .int t_clauses, .int t_rains, .int t_weekNext, .int t_breaths, .int t_wallsRead, .ref t_kinds, .ref t_deep, .ref t_leans, .ref t_moss, .ref t_rain, .ref t_mossThen, .ref t_when, .int t_needsDone, .int t_seenMany, .ref t_sights, .int t_seedNow, .int t_keptWall, .int t_keptWeek, .int t_keptBreaths, .int t_keptSeen, .ref t_keptKinds, .ref t_keptDeep, .ref t_keptLeans, .ref t_keptMoss, .ref t_keptSights, .long t_hash])), (t_kinds, .inl (cA, 6, .inl c_t_kinds)), (t_deep, .inl (cA, 6, .inl c_t_deep)), (t_leans, .inl (cA, 6, .inl c_t_leans)), (p1, .inl (cA, n_p1, .inl c_p1))] sz)) 0 0 (va_A [(t, .inr (7, [.ref t_page, .int t_pageMany, .int t_end, .int t_clauses, .int t_rains, .int t_weekNext, .int t_breaths, .int t_wallsRead, .ref t_kinds, .ref t_deep, .ref t_leans, .ref t_moss, .ref t_rain, .ref t_mossThen, .ref t_when, .int t_needsDone, .int t_seenMany, .ref t_sights, .int t_seedNow, .int t_keptWall, .int t_keptWeek, .int t_keptBreaths, .int t_keptSeen, .ref t_keptKinds, .ref t_keptDeep, .ref t_keptLeans, .ref t_keptMoss, .ref t_keptSights, .long t_hash])), (t_kinds, .inl (cA, 6, .inl c_t_kinds)), (t_deep, .inl (cA, 6, .inl c_t_deep)), (t_leans, .inl (cA, 6, .inl c_t_leans)), (p1, .inl (cA, n_p1, .inl c_p1))] sz) := by
  unfold mX7_grow at hM
  refine Met.ofW (cc := cX7_grow) (maxL := 7) (ret := none) (by decide) rfl ?_
  intro p e s m args below meth c s₁ B hml hv
  obtain ⟨rfl, hsz, hP, hE, hD0⟩ := hv
  have hx := B.exec
  have hb := B.bytes
  have hr := B.returns
  have hts := atoms_spec (ws := wsX7_grow) B.pre
  have hown : s.vm.findClass RX7 = some m.cls := findClass_of_methodNamed B.named
  have hlocks := B.notSynchronized
  have hK := hE.1
  subst hsz
  have hD := hD0.self (sz := s.heap.size)
  generalize hAe : va_A [(t, .inr (7, [.ref t_page, .int t_pageMany, .int t_end, .int t_clauses, .int t_rains, .int t_weekNext, .int t_breaths, .int t_wallsRead, .ref t_kinds, .ref t_deep, .ref t_leans, .ref t_moss, .ref t_rain, .ref t_mossThen, .ref t_when, .int t_needsDone, .int t_seenMany, .ref t_sights, .int t_seedNow, .int t_keptWall, .int t_keptWeek, .int t_keptBreaths, .int t_keptSeen, .ref t_keptKinds, .ref t_keptDeep, .ref t_keptLeans, .ref t_keptMoss, .ref t_keptSights, .long t_hash])), (t_kinds, .inl (cA, 6, .inl c_t_kinds)), (t_deep, .inl (cA, 6, .inl c_t_deep)), (t_leans, .inl (cA, 6, .inl c_t_leans)), (p1, .inl (cA, n_p1, .inl c_p1))] s.heap.size = A at hD ⊢
  have hA : ∀ q : Nat, s.heap.size ≤ q → A q := fun q h => by rw [← hAe]; exact Or.inr h
  have hS : va_S A s.heap s.heap [] := va_S.rf
  have hl := lv_entry ([.ref t, .ref p1, .int p2]) (n := 7) (Nat.le_of_ble_eq_true rfl)
  rw [lg_entry_eq]
  generalize (lg_sl ([.ref t, .ref p1, .int p2]) ++ List.replicate (7 - (lg_sl ([.ref t, .ref p1, .int p2])).length) Slot.unset).toArray = ls at hl ⊢
  have hl : lv_has ls 7 [(0, .ref t), (1, .ref p1), (2, .int p2)] := hl
  refine mw_q (P := fun Q => W p l e (headSpec wsX7_grow rmX7_grow).room s m (([.ref t, .ref p1, .int p2] : List Value).toArray) below meth c s.heap [] 0 0 Q (F0 m 0 ls [])) (fun Q hQ => ?_)
  refine lv_aload_n hx hb dX7_grow_0 rfl (lv_at hl 0 rfl) ?_
  refine lv_aload_n hx hb dX7_grow_1 rfl (lv_at hl 1 rfl) ?_
  obtain ⟨r1, h1, hM⟩ := mw_d1 hM
  have hPc := hP.sub (ws' := [(t, .inr (7, [.ref t_page, .int t_pageMany, .int t_end, .int t_clauses, .int t_rains, .int t_weekNext, .int t_breaths, .int t_wallsRead, .ref t_kinds, .ref t_deep, .ref t_leans, .ref t_moss, .ref t_rain, .ref t_mossThen, .ref t_when, .int t_needsDone, .int t_seenMany, .ref t_sights, .int t_seedNow, .int t_keptWall, .int t_keptWeek, .int t_keptBreaths, .int t_keptSeen, .ref t_keptKinds, .ref t_keptDeep, .ref t_keptLeans, .ref t_keptMoss, .ref t_keptSights, .long t_hash])), (t_deep, .inl (cA, 6, .inl c_t_deep)), (p1, .inl (cA, n_p1, .inl c_p1))]) [0, 2, 4] rfl
  refine vp_callSi (va_Run.run (va_runV (As := [.ref p1]) (rest := []) ⟨hx, hb, hml, hown, hts⟩ (kX7_closedBits l D cA t p1 t_page t_kinds t_deep t_leans t_moss t_rain t_mossThen t_when t_sights t_keptKinds t_keptDeep t_keptLeans t_keptMoss t_keptSights t_pageMany t_end t_clauses t_rains t_weekNext t_breaths t_wallsRead t_needsDone t_seenMany t_seedNow t_keptWall t_keptWeek t_keptBreaths t_keptSeen t_hash c_t_deep n_p1 c_p1 r1 h1) (cwV 1 hts gX7_grow_X7_closedBits rfl rfl rfl (by decide +kernel) ⟨Nat.le_of_ble_eq_true rfl, Nat.le_of_ble_eq_true rfl⟩) ⟨mw_fbR, va_recv hK hP (ci := 7) (q0 := 0) rfl rfl, mw_puR hPc hE⟩ rfl rfl hl.1 rfl (lv_room (Nat.le_of_ble_eq_true rfl)) dX7_grow_2 ⟨Nat.zero_le _, Nat.zero_le _⟩)) (fun v_ e_ => ?_)
  subst v_
  refine lv_istore_n (lv' := [(3, .int r1), (0, .ref t), (1, .ref p1), (2, .int p2)]) hx hb dX7_grow_5 rfl hl (by decide) rfl (fun ls hl => ?_)
  refine lv_iconst (v := 0) hx hb dX7_grow_6 (by decide) ?_
  refine lv_istore (lv' := [(4, .int 0), (3, .int r1), (0, .ref t), (1, .ref p1), (2, .int p2)]) hx hb dX7_grow_7 hl (by decide) rfl (fun ls hl => ?_)
  obtain ⟨k1_102, jk1_102⟩ : ∃ k : Int32 → (Nat → Int32) → Option ((Nat → Int32)), k = fun (x4_1 : Int32) (y1_p1 : Nat → Int32) => some y1_p1 := ⟨_, rfl⟩
  have Ek1_102 : ∀ (x4_1 : Int32) (y1_p1 : Nat → Int32) (H : Heap) (locs : List Loc) (ls : Array Slot), va_P D vwCl [(t, .inr (7, [.ref t_page, .int t_pageMany, .int t_end, .int t_clauses, .int t_rains, .int t_weekNext, .int t_breaths, .int t_wallsRead, .ref t_kinds, .ref t_deep, .ref t_leans, .ref t_moss, .ref t_rain, .ref t_mossThen, .ref t_when, .int t_needsDone, .int t_seenMany, .ref t_sights, .int t_seedNow, .int t_keptWall, .int t_keptWeek, .int t_keptBreaths, .int t_keptSeen, .ref t_keptKinds, .ref t_keptDeep, .ref t_keptLeans, .ref t_keptMoss, .ref t_keptSights, .long t_hash])), (t_kinds, .inl (cA, 6, .inl c_t_kinds)), (t_deep, .inl (cA, 6, .inl c_t_deep)), (t_leans, .inl (cA, 6, .inl c_t_leans)), (p1, .inl (cA, n_p1, .inl y1_p1))] H → va_D A [(t, .inr (7, [.ref t_page, .int t_pageMany, .int t_end, .int t_clauses, .int t_rains, .int t_weekNext, .int t_breaths, .int t_wallsRead, .ref t_kinds, .ref t_deep, .ref t_leans, .ref t_moss, .ref t_rain, .ref t_mossThen, .ref t_when, .int t_needsDone, .int t_seenMany, .ref t_sights, .int t_seedNow, .int t_keptWall, .int t_keptWeek, .int t_keptBreaths, .int t_keptSeen, .ref t_keptKinds, .ref t_keptDeep, .ref t_keptLeans, .ref t_keptMoss, .ref t_keptSights, .long t_hash])), (t_kinds, .inl (cA, 6, .inl c_t_kinds)), (t_deep, .inl (cA, 6, .inl c_t_deep)), (t_leans, .inl (cA, 6, .inl c_t_leans)), (p1, .inl (cA, n_p1, .inl y1_p1))] → va_S A s.heap H locs → lv_has ls 7 [(4, .int x4_1), (3, .int r1), (0, .ref t), (1, .ref p1), (2, .int p2)] → k1_102 x4_1 y1_p1 = some o_c_p1 → W p l e (headSpec wsX7_grow rmX7_grow).room s m (([.ref t, .ref p1, .int p2] : List Value).toArray) below meth c H locs 0 0 Q (F0 m 102 ls []) := by
      intro x4_1 y1_p1 H locs ls hP hD hS hl hM
      rw [jk1_102] at hM
      obtain rfl := mw_o1 hM
      subst hQ
      exact W.vret hx hb hr (fun t ht hW => ⟨⟨(), rfl, trivial, by rw [ht]; exact hP, hD⟩, hS.F ht⟩) hS.2.2 dX7_grow_102
  have L1 : ∀ (n1 : Nat) (x4_1 : Int32) (y1_p1 : Nat → Int32) (H : Heap) (locs : List Loc) (ls : Array Slot), va_P D vwCl [(t, .inr (7, [.ref t_page, .int t_pageMany, .int t_end, .int t_clauses, .int t_rains, .int t_weekNext, .int t_breaths, .int t_wallsRead, .ref t_kinds, .ref t_deep, .ref t_leans, .ref t_moss, .ref t_rain, .ref t_mossThen, .ref t_when, .int t_needsDone, .int t_seenMany, .ref t_sights, .int t_seedNow, .int t_keptWall, .int t_keptWeek, .int t_keptBreaths, .int t_keptSeen, .ref t_keptKinds, .ref t_keptDeep, .ref t_keptLeans, .ref t_keptMoss, .ref t_keptSights, .long t_hash])), (t_kinds, .inl (cA, 6, .inl c_t_kinds)), (t_deep, .inl (cA, 6, .inl c_t_deep)), (t_leans, .inl (cA, 6, .inl c_t_leans)), (p1, .inl (cA, n_p1, .inl y1_p1))] H → va_D A [(t, .inr (7, [.ref t_page, .int t_pageMany, .int t_end, .int t_clauses, .int t_rains, .int t_weekNext, .int t_breaths, .int t_wallsRead, .ref t_kinds, .ref t_deep, .ref t_leans, .ref t_moss, .ref t_rain, .ref t_mossThen, .ref t_when, .int t_needsDone, .int t_seenMany, .ref t_sights, .int t_seedNow, .int t_keptWall, .int t_keptWeek, .int t_keptBreaths, .int t_keptSeen, .ref t_keptKinds, .ref t_keptDeep, .ref t_keptLeans, .ref t_keptMoss, .ref t_keptSights, .long t_hash])), (t_kinds, .inl (cA, 6, .inl c_t_kinds)), (t_deep, .inl (cA, 6, .inl c_t_deep)), (t_leans, .inl (cA, 6, .inl c_t_leans)), (p1, .inl (cA, n_p1, .inl y1_p1))] → va_S A s.heap H locs → lv_has ls 7 [(4, .int x4_1), (3, .int r1), (0, .ref t), (1, .ref p1), (2, .int p2)] → mX7_grow_L1 t_clauses c_t_kinds c_t_leans n_p1 p2 r1 k1_102 n1 x4_1 y1_p1 = some o_c_p1 → W p l e (headSpec wsX7_grow rmX7_grow).room s m (([.ref t, .ref p1, .int p2] : List Value).toArray) below meth c H locs 0 0 Q (F0 m 9 ls []) := by
      intro n1
      induction n1 with
      | zero =>
        intro x4_1 y1_p1 H locs ls hP hD hS hl hM
        rw [mX7_grow_L1] at hM
        exact mw_none hM
      | succ n1 ih1 =>
        intro x4_1 y1_p1 H locs ls hP hD hS hl hM
        rw [mX7_grow_L1] at hM
        refine lv_iload hx hb dX7_grow_9 (lv_at hl 0 rfl) ?_
        refine lv_aload_n hx hb dX7_grow_11 rfl (lv_at hl 2 rfl) ?_
        refine va_get (D := D) (ci := 7) (v := .int t_clauses) (C := RX7) (T := TX7) (N := 29) hx hb hts (fun _ h => List.mem_cons_of_mem _ (List.mem_append_right _ (h))) hown hK hP 0 rfl rfl 3 (by decide) (hts (.fieldLink RX7 88 "MossWallModel" "clauses" "I") (List.mem_cons_of_mem _ (List.mem_append_left _ (List.mem_of_getElem? (i := 0) rfl)))) (fun _ h9 => h9) rfl dX7_grow_12 ?_
        refine lv_icmp_ge (tgt := 102) hx hb dX7_grow_15 (by decide) (fun q2 => ?_) (fun q2 => ?_)
        · replace hM := mw_t hM q2
          exact Ek1_102 x4_1 y1_p1 _ _ _ hP hD hS (lv_sub hl [0, 1, 2, 3, 4] rfl) hM
        · replace hM := mw_f hM q2
          refine lv_aload_n hx hb dX7_grow_18 rfl (lv_at hl 2 rfl) ?_
          refine va_get (D := D) (ci := 7) (v := .ref t_leans) (C := RX7) (T := TX7) (N := 29) hx hb hts (fun _ h => List.mem_cons_of_mem _ (List.mem_append_right _ (h))) hown hK hP 0 rfl rfl 10 (by decide) (hts (.fieldLink RX7 19 "MossWallModel" "leans" "[I") (List.mem_cons_of_mem _ (List.mem_append_left _ (List.mem_of_getElem? (i := 1) rfl)))) (fun _ h9 => h9) rfl dX7_grow_19 ?_
          refine lv_iload hx hb dX7_grow_22 (lv_at hl 0 rfl) ?_
          obtain ⟨e3, h3, hM⟩ := mw_d1 hM
          refine mw_iald hx hb hK hP 3 0 rfl rfl h3 dX7_grow_24 ?_
          refine lv_iconst (v := (-1)) hx hb dX7_grow_25 (by decide) ?_
          refine lv_icmp_eq (tgt := 44) hx hb dX7_grow_26 (by decide) (fun q4 => ?_) (fun q4 => ?_)
          · replace hM := mw_t hM q4
            refine lv_iconst (v := 1) hx hb dX7_grow_44 (by decide) ?_
            refine lv_goto (tgt := 49) hx hb dX7_grow_45 (by decide) ?_
            refine lv_istore (lv' := [(5, .int 1), (4, .int x4_1), (3, .int r1), (0, .ref t), (1, .ref p1), (2, .int p2)]) hx hb dX7_grow_49 hl (by decide) rfl (fun ls hl => ?_)
            refine lv_aload_n hx hb dX7_grow_51 rfl (lv_at hl 4 rfl) ?_
            refine lv_iload hx hb dX7_grow_52 (lv_at hl 1 rfl) ?_
            obtain ⟨e5, h5, hM⟩ := mw_d1 hM
            refine mw_iald hx hb hK hP 4 0 rfl rfl h5 dX7_grow_54 ?_
            refine lv_iload hx hb dX7_grow_55 (lv_at hl 0 rfl) ?_
            refine lv_if_eq (tgt := 74) hx hb dX7_grow_57 (by decide) (fun h => absurd h (by decide)) (fun _ => ?_)
            refine lv_aload_n hx hb dX7_grow_60 rfl (lv_at hl 3 rfl) ?_
            refine va_get (D := D) (ci := 7) (v := .ref t_kinds) (C := RX7) (T := TX7) (N := 29) hx hb hts (fun _ h => List.mem_cons_of_mem _ (List.mem_append_right _ (h))) hown hK hP 0 rfl rfl 8 (by decide) (hts (.fieldLink RX7 13 "MossWallModel" "kinds" "[I") (List.mem_cons_of_mem _ (List.mem_append_left _ (List.mem_of_getElem? (i := 2) rfl)))) (fun _ h9 => h9) rfl dX7_grow_61 ?_
            refine lv_iload hx hb dX7_grow_64 (lv_at hl 1 rfl) ?_
            obtain ⟨e6, h6, hM⟩ := mw_d1 hM
            refine mw_iald hx hb hK hP 1 0 rfl rfl h6 dX7_grow_66 ?_
            refine lv_iload_n hx hb dX7_grow_67 rfl (lv_at hl 5 rfl) ?_
            obtain ⟨r7, h7, hM⟩ := mw_d1 hM
            have hPc := hP.sub (ws' := []) [] rfl
            refine vp_callSi (va_Run.run (va_runS (As := [.int e6, .int p2]) (rest := [.int e5]) ⟨hx, hb, hml, hown, hts⟩ (kX7_growsBy l D cA e6 p2 r7 h7) (va_cwS 2 hts gX7_grow_X7_growsBy rfl rfl rfl (by decide +kernel) ⟨Nat.le_of_ble_eq_true rfl, Nat.le_of_ble_eq_true rfl⟩) ⟨mw_fbR, mw_puR hPc hE⟩ rfl rfl hl.1 rfl (lv_room (Nat.le_of_ble_eq_true rfl)) dX7_grow_68 ⟨Nat.zero_le _, Nat.zero_le _⟩)) (fun v_ e_ => ?_)
            subst v_
            refine lv_goto (tgt := 75) hx hb dX7_grow_71 (by decide) ?_
            refine lv_iadd hx hb dX7_grow_75 ?_
            refine lv_istore (lv' := [(6, .int (e5 + r7)), (5, .int 1), (4, .int x4_1), (3, .int r1), (0, .ref t), (1, .ref p1), (2, .int p2)]) hx hb dX7_grow_76 hl (by decide) rfl (fun ls hl => ?_)
            refine lv_aload_n hx hb dX7_grow_78 rfl (lv_at hl 5 rfl) ?_
            refine lv_iload hx hb dX7_grow_79 (lv_at hl 2 rfl) ?_
            refine lv_iload hx hb dX7_grow_81 (lv_at hl 0 rfl) ?_
            refine lv_bipush (v := 99) hx hb dX7_grow_83 (by decide) ?_
            refine lv_icmp_le (tgt := 93) hx hb dX7_grow_85 (by decide) (fun q8 => ?_) (fun q8 => ?_)
            · replace hM := mw_t hM q8
              refine lv_iload hx hb dX7_grow_93 (lv_at hl 0 rfl) ?_
              obtain ⟨a9_p1, h9, hM⟩ := mw_d1 hM
              refine mw_iast hx hb hK hP hD hS 4 0 rfl rfl h9 dX7_grow_95 (fun H locs hP hD hS => ?_)
              have hP : va_P D vwCl [(t, .inr (7, [.ref t_page, .int t_pageMany, .int t_end, .int t_clauses, .int t_rains, .int t_weekNext, .int t_breaths, .int t_wallsRead, .ref t_kinds, .ref t_deep, .ref t_leans, .ref t_moss, .ref t_rain, .ref t_mossThen, .ref t_when, .int t_needsDone, .int t_seenMany, .ref t_sights, .int t_seedNow, .int t_keptWall, .int t_keptWeek, .int t_keptBreaths, .int t_keptSeen, .ref t_keptKinds, .ref t_keptDeep, .ref t_keptLeans, .ref t_keptMoss, .ref t_keptSights, .long t_hash])), (t_kinds, .inl (cA, 6, .inl c_t_kinds)), (t_deep, .inl (cA, 6, .inl c_t_deep)), (t_leans, .inl (cA, 6, .inl c_t_leans)), (p1, .inl (cA, n_p1, .inl a9_p1))] H := hP
              have hD : va_D A [(t, .inr (7, [.ref t_page, .int t_pageMany, .int t_end, .int t_clauses, .int t_rains, .int t_weekNext, .int t_breaths, .int t_wallsRead, .ref t_kinds, .ref t_deep, .ref t_leans, .ref t_moss, .ref t_rain, .ref t_mossThen, .ref t_when, .int t_needsDone, .int t_seenMany, .ref t_sights, .int t_seedNow, .int t_keptWall, .int t_keptWeek, .int t_keptBreaths, .int t_keptSeen, .ref t_keptKinds, .ref t_keptDeep, .ref t_keptLeans, .ref t_keptMoss, .ref t_keptSights, .long t_hash])), (t_kinds, .inl (cA, 6, .inl c_t_kinds)), (t_deep, .inl (cA, 6, .inl c_t_deep)), (t_leans, .inl (cA, 6, .inl c_t_leans)), (p1, .inl (cA, n_p1, .inl a9_p1))] := hD
              refine lv_iinc (v := x4_1 + 1) (lv' := [(4, .int (x4_1 + 1)), (6, .int (e5 + r7)), (5, .int 1), (3, .int r1), (0, .ref t), (1, .ref p1), (2, .int p2)]) hx hb dX7_grow_96 hl (k := 2) rfl (by first | rfl | decide) (by decide) rfl (fun ls hl => ?_)
              refine lv_goto (tgt := 9) hx hb dX7_grow_99 (by decide) ?_
              exact ih1 (x4_1 + 1) a9_p1 _ _ _ hP hD hS (lv_sub hl [0, 3, 4, 5, 6] rfl) hM
            · replace hM := mw_f hM q8
              refine lv_bipush (v := 99) hx hb dX7_grow_88 (by decide) ?_
              refine lv_goto (tgt := 95) hx hb dX7_grow_90 (by decide) ?_
              obtain ⟨a10_p1, h10, hM⟩ := mw_d1 hM
              refine mw_iast hx hb hK hP hD hS 4 0 rfl rfl h10 dX7_grow_95 (fun H locs hP hD hS => ?_)
              have hP : va_P D vwCl [(t, .inr (7, [.ref t_page, .int t_pageMany, .int t_end, .int t_clauses, .int t_rains, .int t_weekNext, .int t_breaths, .int t_wallsRead, .ref t_kinds, .ref t_deep, .ref t_leans, .ref t_moss, .ref t_rain, .ref t_mossThen, .ref t_when, .int t_needsDone, .int t_seenMany, .ref t_sights, .int t_seedNow, .int t_keptWall, .int t_keptWeek, .int t_keptBreaths, .int t_keptSeen, .ref t_keptKinds, .ref t_keptDeep, .ref t_keptLeans, .ref t_keptMoss, .ref t_keptSights, .long t_hash])), (t_kinds, .inl (cA, 6, .inl c_t_kinds)), (t_deep, .inl (cA, 6, .inl c_t_deep)), (t_leans, .inl (cA, 6, .inl c_t_leans)), (p1, .inl (cA, n_p1, .inl a10_p1))] H := hP
              have hD : va_D A [(t, .inr (7, [.ref t_page, .int t_pageMany, .int t_end, .int t_clauses, .int t_rains, .int t_weekNext, .int t_breaths, .int t_wallsRead, .ref t_kinds, .ref t_deep, .ref t_leans, .ref t_moss, .ref t_rain, .ref t_mossThen, .ref t_when, .int t_needsDone, .int t_seenMany, .ref t_sights, .int t_seedNow, .int t_keptWall, .int t_keptWeek, .int t_keptBreaths, .int t_keptSeen, .ref t_keptKinds, .ref t_keptDeep, .ref t_keptLeans, .ref t_keptMoss, .ref t_keptSights, .long t_hash])), (t_kinds, .inl (cA, 6, .inl c_t_kinds)), (t_deep, .inl (cA, 6, .inl c_t_deep)), (t_leans, .inl (cA, 6, .inl c_t_leans)), (p1, .inl (cA, n_p1, .inl a10_p1))] := hD
              refine lv_iinc (v := x4_1 + 1) (lv' := [(4, .int (x4_1 + 1)), (6, .int (e5 + r7)), (5, .int 1), (3, .int r1), (0, .ref t), (1, .ref p1), (2, .int p2)]) hx hb dX7_grow_96 hl (k := 2) rfl (by first | rfl | decide) (by decide) rfl (fun ls hl => ?_)
              refine lv_goto (tgt := 9) hx hb dX7_grow_99 (by decide) ?_
              exact ih1 (x4_1 + 1) a10_p1 _ _ _ hP hD hS (lv_sub hl [0, 3, 4, 5, 6] rfl) hM
          · replace hM := mw_f hM q4
            refine lv_iload_n hx hb dX7_grow_29 rfl (lv_at hl 1 rfl) ?_
            refine lv_aload_n hx hb dX7_grow_30 rfl (lv_at hl 2 rfl) ?_
            refine va_get (D := D) (ci := 7) (v := .ref t_leans) (C := RX7) (T := TX7) (N := 29) hx hb hts (fun _ h => List.mem_cons_of_mem _ (List.mem_append_right _ (h))) hown hK hP 0 rfl rfl 10 (by decide) (hts (.fieldLink RX7 19 "MossWallModel" "leans" "[I") (List.mem_cons_of_mem _ (List.mem_append_left _ (List.mem_of_getElem? (i := 1) rfl)))) (fun _ h9 => h9) rfl dX7_grow_31 ?_
            refine lv_iload hx hb dX7_grow_34 (lv_at hl 0 rfl) ?_
            obtain ⟨e11, h11, hM⟩ := mw_d1 hM
            refine mw_iald hx hb hK hP 3 0 rfl rfl h11 dX7_grow_36 ?_
            refine lv_ishr hx hb dX7_grow_37 ?_
            refine lv_iconst (v := 1) hx hb dX7_grow_38 (by decide) ?_
            refine lv_iand hx hb dX7_grow_39 ?_
            refine lv_iconst (v := 1) hx hb dX7_grow_40 (by decide) ?_
            refine lv_icmp_ne (tgt := 48) hx hb dX7_grow_41 (by decide) (fun q12 => ?_) (fun q12 => ?_)
            · replace hM := mw_f hM q12
              refine lv_iconst (v := 0) hx hb dX7_grow_48 (by decide) ?_
              refine lv_istore (lv' := [(5, .int 0), (4, .int x4_1), (3, .int r1), (0, .ref t), (1, .ref p1), (2, .int p2)]) hx hb dX7_grow_49 hl (by decide) rfl (fun ls hl => ?_)
              refine lv_aload_n hx hb dX7_grow_51 rfl (lv_at hl 4 rfl) ?_
              refine lv_iload hx hb dX7_grow_52 (lv_at hl 1 rfl) ?_
              obtain ⟨e13, h13, hM⟩ := mw_d1 hM
              refine mw_iald hx hb hK hP 4 0 rfl rfl h13 dX7_grow_54 ?_
              refine lv_iload hx hb dX7_grow_55 (lv_at hl 0 rfl) ?_
              refine lv_if_eq (tgt := 74) hx hb dX7_grow_57 (by decide) (fun _ => ?_) (fun h => absurd (by decide) h)
              refine lv_iconst (v := 0) hx hb dX7_grow_74 (by decide) ?_
              refine lv_iadd hx hb dX7_grow_75 ?_
              refine lv_istore (lv' := [(6, .int (e13 + 0)), (5, .int 0), (4, .int x4_1), (3, .int r1), (0, .ref t), (1, .ref p1), (2, .int p2)]) hx hb dX7_grow_76 hl (by decide) rfl (fun ls hl => ?_)
              refine lv_aload_n hx hb dX7_grow_78 rfl (lv_at hl 5 rfl) ?_
              refine lv_iload hx hb dX7_grow_79 (lv_at hl 2 rfl) ?_
              refine lv_iload hx hb dX7_grow_81 (lv_at hl 0 rfl) ?_
              refine lv_bipush (v := 99) hx hb dX7_grow_83 (by decide) ?_
              refine lv_icmp_le (tgt := 93) hx hb dX7_grow_85 (by decide) (fun q14 => ?_) (fun q14 => ?_)
              · replace hM := mw_t hM q14
                refine lv_iload hx hb dX7_grow_93 (lv_at hl 0 rfl) ?_
                obtain ⟨a15_p1, h15, hM⟩ := mw_d1 hM
                refine mw_iast hx hb hK hP hD hS 4 0 rfl rfl h15 dX7_grow_95 (fun H locs hP hD hS => ?_)
                have hP : va_P D vwCl [(t, .inr (7, [.ref t_page, .int t_pageMany, .int t_end, .int t_clauses, .int t_rains, .int t_weekNext, .int t_breaths, .int t_wallsRead, .ref t_kinds, .ref t_deep, .ref t_leans, .ref t_moss, .ref t_rain, .ref t_mossThen, .ref t_when, .int t_needsDone, .int t_seenMany, .ref t_sights, .int t_seedNow, .int t_keptWall, .int t_keptWeek, .int t_keptBreaths, .int t_keptSeen, .ref t_keptKinds, .ref t_keptDeep, .ref t_keptLeans, .ref t_keptMoss, .ref t_keptSights, .long t_hash])), (t_kinds, .inl (cA, 6, .inl c_t_kinds)), (t_deep, .inl (cA, 6, .inl c_t_deep)), (t_leans, .inl (cA, 6, .inl c_t_leans)), (p1, .inl (cA, n_p1, .inl a15_p1))] H := hP
                have hD : va_D A [(t, .inr (7, [.ref t_page, .int t_pageMany, .int t_end, .int t_clauses, .int t_rains, .int t_weekNext, .int t_breaths, .int t_wallsRead, .ref t_kinds, .ref t_deep, .ref t_leans, .ref t_moss, .ref t_rain, .ref t_mossThen, .ref t_when, .int t_needsDone, .int t_seenMany, .ref t_sights, .int t_seedNow, .int t_keptWall, .int t_keptWeek, .int t_keptBreaths, .int t_keptSeen, .ref t_keptKinds, .ref t_keptDeep, .ref t_keptLeans, .ref t_keptMoss, .ref t_keptSights, .long t_hash])), (t_kinds, .inl (cA, 6, .inl c_t_kinds)), (t_deep, .inl (cA, 6, .inl c_t_deep)), (t_leans, .inl (cA, 6, .inl c_t_leans)), (p1, .inl (cA, n_p1, .inl a15_p1))] := hD
                refine lv_iinc (v := x4_1 + 1) (lv' := [(4, .int (x4_1 + 1)), (6, .int (e13 + 0)), (5, .int 0), (3, .int r1), (0, .ref t), (1, .ref p1), (2, .int p2)]) hx hb dX7_grow_96 hl (k := 2) rfl (by first | rfl | decide) (by decide) rfl (fun ls hl => ?_)
                refine lv_goto (tgt := 9) hx hb dX7_grow_99 (by decide) ?_
                exact ih1 (x4_1 + 1) a15_p1 _ _ _ hP hD hS (lv_sub hl [0, 3, 4, 5, 6] rfl) hM
              · replace hM := mw_f hM q14
                refine lv_bipush (v := 99) hx hb dX7_grow_88 (by decide) ?_
                refine lv_goto (tgt := 95) hx hb dX7_grow_90 (by decide) ?_
                obtain ⟨a16_p1, h16, hM⟩ := mw_d1 hM
                refine mw_iast hx hb hK hP hD hS 4 0 rfl rfl h16 dX7_grow_95 (fun H locs hP hD hS => ?_)
                have hP : va_P D vwCl [(t, .inr (7, [.ref t_page, .int t_pageMany, .int t_end, .int t_clauses, .int t_rains, .int t_weekNext, .int t_breaths, .int t_wallsRead, .ref t_kinds, .ref t_deep, .ref t_leans, .ref t_moss, .ref t_rain, .ref t_mossThen, .ref t_when, .int t_needsDone, .int t_seenMany, .ref t_sights, .int t_seedNow, .int t_keptWall, .int t_keptWeek, .int t_keptBreaths, .int t_keptSeen, .ref t_keptKinds, .ref t_keptDeep, .ref t_keptLeans, .ref t_keptMoss, .ref t_keptSights, .long t_hash])), (t_kinds, .inl (cA, 6, .inl c_t_kinds)), (t_deep, .inl (cA, 6, .inl c_t_deep)), (t_leans, .inl (cA, 6, .inl c_t_leans)), (p1, .inl (cA, n_p1, .inl a16_p1))] H := hP
                have hD : va_D A [(t, .inr (7, [.ref t_page, .int t_pageMany, .int t_end, .int t_clauses, .int t_rains, .int t_weekNext, .int t_breaths, .int t_wallsRead, .ref t_kinds, .ref t_deep, .ref t_leans, .ref t_moss, .ref t_rain, .ref t_mossThen, .ref t_when, .int t_needsDone, .int t_seenMany, .ref t_sights, .int t_seedNow, .int t_keptWall, .int t_keptWeek, .int t_keptBreaths, .int t_keptSeen, .ref t_keptKinds, .ref t_keptDeep, .ref t_keptLeans, .ref t_keptMoss, .ref t_keptSights, .long t_hash])), (t_kinds, .inl (cA, 6, .inl c_t_kinds)), (t_deep, .inl (cA, 6, .inl c_t_deep)), (t_leans, .inl (cA, 6, .inl c_t_leans)), (p1, .inl (cA, n_p1, .inl a16_p1))] := hD
                refine lv_iinc (v := x4_1 + 1) (lv' := [(4, .int (x4_1 + 1)), (6, .int (e13 + 0)), (5, .int 0), (3, .int r1), (0, .ref t), (1, .ref p1), (2, .int p2)]) hx hb dX7_grow_96 hl (k := 2) rfl (by first | rfl | decide) (by decide) rfl (fun ls hl => ?_)
                refine lv_goto (tgt := 9) hx hb dX7_grow_99 (by decide) ?_
                exact ih1 (x4_1 + 1) a16_p1 _ _ _ hP hD hS (lv_sub hl [0, 3, 4, 5, 6] rfl) hM
            · replace hM := mw_t hM q12
              refine lv_iconst (v := 1) hx hb dX7_grow_44 (by decide) ?_
              refine lv_goto (tgt := 49) hx hb dX7_grow_45 (by decide) ?_
              refine lv_istore (lv' := [(5, .int 1), (4, .int x4_1), (3, .int r1), (0, .ref t), (1, .ref p1), (2, .int p2)]) hx hb dX7_grow_49 hl (by decide) rfl (fun ls hl => ?_)
              refine lv_aload_n hx hb dX7_grow_51 rfl (lv_at hl 4 rfl) ?_
              refine lv_iload hx hb dX7_grow_52 (lv_at hl 1 rfl) ?_
              obtain ⟨e17, h17, hM⟩ := mw_d1 hM
              refine mw_iald hx hb hK hP 4 0 rfl rfl h17 dX7_grow_54 ?_
              refine lv_iload hx hb dX7_grow_55 (lv_at hl 0 rfl) ?_
              refine lv_if_eq (tgt := 74) hx hb dX7_grow_57 (by decide) (fun h => absurd h (by decide)) (fun _ => ?_)
              refine lv_aload_n hx hb dX7_grow_60 rfl (lv_at hl 3 rfl) ?_
              refine va_get (D := D) (ci := 7) (v := .ref t_kinds) (C := RX7) (T := TX7) (N := 29) hx hb hts (fun _ h => List.mem_cons_of_mem _ (List.mem_append_right _ (h))) hown hK hP 0 rfl rfl 8 (by decide) (hts (.fieldLink RX7 13 "MossWallModel" "kinds" "[I") (List.mem_cons_of_mem _ (List.mem_append_left _ (List.mem_of_getElem? (i := 2) rfl)))) (fun _ h9 => h9) rfl dX7_grow_61 ?_
              refine lv_iload hx hb dX7_grow_64 (lv_at hl 1 rfl) ?_
              obtain ⟨e18, h18, hM⟩ := mw_d1 hM
              refine mw_iald hx hb hK hP 1 0 rfl rfl h18 dX7_grow_66 ?_
              refine lv_iload_n hx hb dX7_grow_67 rfl (lv_at hl 5 rfl) ?_
              obtain ⟨r19, h19, hM⟩ := mw_d1 hM
              have hPc := hP.sub (ws' := []) [] rfl
              refine vp_callSi (va_Run.run (va_runS (As := [.int e18, .int p2]) (rest := [.int e17]) ⟨hx, hb, hml, hown, hts⟩ (kX7_growsBy l D cA e18 p2 r19 h19) (va_cwS 2 hts gX7_grow_X7_growsBy rfl rfl rfl (by decide +kernel) ⟨Nat.le_of_ble_eq_true rfl, Nat.le_of_ble_eq_true rfl⟩) ⟨mw_fbR, mw_puR hPc hE⟩ rfl rfl hl.1 rfl (lv_room (Nat.le_of_ble_eq_true rfl)) dX7_grow_68 ⟨Nat.zero_le _, Nat.zero_le _⟩)) (fun v_ e_ => ?_)
              subst v_
              refine lv_goto (tgt := 75) hx hb dX7_grow_71 (by decide) ?_
              refine lv_iadd hx hb dX7_grow_75 ?_
              refine lv_istore (lv' := [(6, .int (e17 + r19)), (5, .int 1), (4, .int x4_1), (3, .int r1), (0, .ref t), (1, .ref p1), (2, .int p2)]) hx hb dX7_grow_76 hl (by decide) rfl (fun ls hl => ?_)
              refine lv_aload_n hx hb dX7_grow_78 rfl (lv_at hl 5 rfl) ?_
              refine lv_iload hx hb dX7_grow_79 (lv_at hl 2 rfl) ?_
              refine lv_iload hx hb dX7_grow_81 (lv_at hl 0 rfl) ?_
              refine lv_bipush (v := 99) hx hb dX7_grow_83 (by decide) ?_
              refine lv_icmp_le (tgt := 93) hx hb dX7_grow_85 (by decide) (fun q20 => ?_) (fun q20 => ?_)
              · replace hM := mw_t hM q20
                refine lv_iload hx hb dX7_grow_93 (lv_at hl 0 rfl) ?_
                obtain ⟨a21_p1, h21, hM⟩ := mw_d1 hM
                refine mw_iast hx hb hK hP hD hS 4 0 rfl rfl h21 dX7_grow_95 (fun H locs hP hD hS => ?_)
                have hP : va_P D vwCl [(t, .inr (7, [.ref t_page, .int t_pageMany, .int t_end, .int t_clauses, .int t_rains, .int t_weekNext, .int t_breaths, .int t_wallsRead, .ref t_kinds, .ref t_deep, .ref t_leans, .ref t_moss, .ref t_rain, .ref t_mossThen, .ref t_when, .int t_needsDone, .int t_seenMany, .ref t_sights, .int t_seedNow, .int t_keptWall, .int t_keptWeek, .int t_keptBreaths, .int t_keptSeen, .ref t_keptKinds, .ref t_keptDeep, .ref t_keptLeans, .ref t_keptMoss, .ref t_keptSights, .long t_hash])), (t_kinds, .inl (cA, 6, .inl c_t_kinds)), (t_deep, .inl (cA, 6, .inl c_t_deep)), (t_leans, .inl (cA, 6, .inl c_t_leans)), (p1, .inl (cA, n_p1, .inl a21_p1))] H := hP
                have hD : va_D A [(t, .inr (7, [.ref t_page, .int t_pageMany, .int t_end, .int t_clauses, .int t_rains, .int t_weekNext, .int t_breaths, .int t_wallsRead, .ref t_kinds, .ref t_deep, .ref t_leans, .ref t_moss, .ref t_rain, .ref t_mossThen, .ref t_when, .int t_needsDone, .int t_seenMany, .ref t_sights, .int t_seedNow, .int t_keptWall, .int t_keptWeek, .int t_keptBreaths, .int t_keptSeen, .ref t_keptKinds, .ref t_keptDeep, .ref t_keptLeans, .ref t_keptMoss, .ref t_keptSights, .long t_hash])), (t_kinds, .inl (cA, 6, .inl c_t_kinds)), (t_deep, .inl (cA, 6, .inl c_t_deep)), (t_leans, .inl (cA, 6, .inl c_t_leans)), (p1, .inl (cA, n_p1, .inl a21_p1))] := hD
                refine lv_iinc (v := x4_1 + 1) (lv' := [(4, .int (x4_1 + 1)), (6, .int (e17 + r19)), (5, .int 1), (3, .int r1), (0, .ref t), (1, .ref p1), (2, .int p2)]) hx hb dX7_grow_96 hl (k := 2) rfl (by first | rfl | decide) (by decide) rfl (fun ls hl => ?_)
                refine lv_goto (tgt := 9) hx hb dX7_grow_99 (by decide) ?_
                exact ih1 (x4_1 + 1) a21_p1 _ _ _ hP hD hS (lv_sub hl [0, 3, 4, 5, 6] rfl) hM
              · replace hM := mw_f hM q20
                refine lv_bipush (v := 99) hx hb dX7_grow_88 (by decide) ?_
                refine lv_goto (tgt := 95) hx hb dX7_grow_90 (by decide) ?_
                obtain ⟨a22_p1, h22, hM⟩ := mw_d1 hM
                refine mw_iast hx hb hK hP hD hS 4 0 rfl rfl h22 dX7_grow_95 (fun H locs hP hD hS => ?_)
                have hP : va_P D vwCl [(t, .inr (7, [.ref t_page, .int t_pageMany, .int t_end, .int t_clauses, .int t_rains, .int t_weekNext, .int t_breaths, .int t_wallsRead, .ref t_kinds, .ref t_deep, .ref t_leans, .ref t_moss, .ref t_rain, .ref t_mossThen, .ref t_when, .int t_needsDone, .int t_seenMany, .ref t_sights, .int t_seedNow, .int t_keptWall, .int t_keptWeek, .int t_keptBreaths, .int t_keptSeen, .ref t_keptKinds, .ref t_keptDeep, .ref t_keptLeans, .ref t_keptMoss, .ref t_keptSights, .long t_hash])), (t_kinds, .inl (cA, 6, .inl c_t_kinds)), (t_deep, .inl (cA, 6, .inl c_t_deep)), (t_leans, .inl (cA, 6, .inl c_t_leans)), (p1, .inl (cA, n_p1, .inl a22_p1))] H := hP
                have hD : va_D A [(t, .inr (7, [.ref t_page, .int t_pageMany, .int t_end, .int t_clauses, .int t_rains, .int t_weekNext, .int t_breaths, .int t_wallsRead, .ref t_kinds, .ref t_deep, .ref t_leans, .ref t_moss, .ref t_rain, .ref t_mossThen, .ref t_when, .int t_needsDone, .int t_seenMany, .ref t_sights, .int t_seedNow, .int t_keptWall, .int t_keptWeek, .int t_keptBreaths, .int t_keptSeen, .ref t_keptKinds, .ref t_keptDeep, .ref t_keptLeans, .ref t_keptMoss, .ref t_keptSights, .long t_hash])), (t_kinds, .inl (cA, 6, .inl c_t_kinds)), (t_deep, .inl (cA, 6, .inl c_t_deep)), (t_leans, .inl (cA, 6, .inl c_t_leans)), (p1, .inl (cA, n_p1, .inl a22_p1))] := hD
                refine lv_iinc (v := x4_1 + 1) (lv' := [(4, .int (x4_1 + 1)), (6, .int (e17 + r19)), (5, .int 1), (3, .int r1), (0, .ref t), (1, .ref p1), (2, .int p2)]) hx hb dX7_grow_96 hl (k := 2) rfl (by first | rfl | decide) (by decide) rfl (fun ls hl => ?_)
                refine lv_goto (tgt := 9) hx hb dX7_grow_99 (by decide) ?_
                exact ih1 (x4_1 + 1) a22_p1 _ _ _ hP hD hS (lv_sub hl [0, 3, 4, 5, 6] rfl) hM
  exact L1 300 0 c_p1 _ _ _ hP hD hS hl (by rw [jk1_102]; exact hM)
def mX7_forceBits_L1 (t_clauses : Int32) (c_t_kinds : Nat → Int32) (c_t_deep : Nat → Int32) (c_t_leans : Nat → Int32) (n_p1 : Nat) (c_p1 : Nat → Int32) (k1_83 : Int32 → Int32 → Option Int32) : Nat → Int32 → Int32 → Option Int32
  | 0, _, _ => none
  | n1 + 1, x3_1, x2_1 =>
    (if t_clauses ≤ x3_1 then k1_83 x3_1 x2_1 else (mX7_isClosed c_t_deep n_p1 c_p1 x3_1).bind fun r2 => (if r2 = 0 then mX7_forceBits_L1 t_clauses c_t_kinds c_t_deep c_t_leans n_p1 c_p1 k1_83 n1 (x3_1 + 1) (x2_1 ||| 0) else (mw_rd c_t_kinds 6 x3_1).bind fun e4 => (if e4 = 3 then mX7_forceBits_L1 t_clauses c_t_kinds c_t_deep c_t_leans n_p1 c_p1 k1_83 n1 (x3_1 + 1) (x2_1 ||| 0) else (mw_rd c_t_leans 6 x3_1).bind fun e6 => (if e6 = ((-1)) then mX7_forceBits_L1 t_clauses c_t_kinds c_t_deep c_t_leans n_p1 c_p1 k1_83 n1 (x3_1 + 1) (x2_1 ||| (1 <<< (x3_1 &&& 31))) else (mw_rd c_t_leans 6 x3_1).bind fun e8 => (if ((x2_1 >>> (e8 &&& 31)) &&& 1) = 1 then mX7_forceBits_L1 t_clauses c_t_kinds c_t_deep c_t_leans n_p1 c_p1 k1_83 n1 (x3_1 + 1) (x2_1 ||| (1 <<< (x3_1 &&& 31))) else mX7_forceBits_L1 t_clauses c_t_kinds c_t_deep c_t_leans n_p1 c_p1 k1_83 n1 (x3_1 + 1) (x2_1 ||| 0))))))
def mX7_forceBits (t_clauses : Int32) (c_t_kinds : Nat → Int32) (c_t_deep : Nat → Int32) (c_t_leans : Nat → Int32) (n_p1 : Nat) (c_p1 : Nat → Int32) : Option Int32 :=
  mX7_forceBits_L1 t_clauses c_t_kinds c_t_deep c_t_leans n_p1 c_p1 (fun (x3_1 : Int32) (x2_1 : Int32) => some x2_1) 300 0 0
abbrev rmX7_forceBits : Room := ({ frames := 1, cells := 0, slots := 0, locals := 22 } : Room)
set_option maxHeartbeats 4000000 in
set_option maxRecDepth 100000 in
theorem kX7_forceBits (l : Launch) (D : va_G) (cA : ClassId) (t p1 t_page t_kinds t_deep t_leans t_moss t_rain t_mossThen t_when t_sights t_keptKinds t_keptDeep t_keptLeans t_keptMoss t_keptSights : Nat) (t_pageMany : Int32) (t_end : Int32) (t_clauses : Int32) (t_rains : Int32) (t_weekNext : Int32) (t_breaths : Int32) (t_wallsRead : Int32) (t_needsDone : Int32) (t_seenMany : Int32) (t_seedNow : Int32) (t_keptWall : Int32) (t_keptWeek : Int32) (t_keptBreaths : Int32) (t_keptSeen : Int32) (t_hash : Int64) (c_t_kinds : Nat → Int32) (c_t_deep : Nat → Int32) (c_t_leans : Nat → Int32) (n_p1 : Nat) (c_p1 : Nat → Int32) (r : Int32) (hM : mX7_forceBits t_clauses c_t_kinds c_t_deep c_t_leans n_p1 c_p1 = some r) : Met l yX7_forceBits wsX7_forceBits rmX7_forceBits (va_Pc [.ref t, .ref p1] (fun U => va_P D vwCl [(t, .inr (7, [.ref t_page, .int t_pageMany, .int t_end, .int t_clauses, .int t_rains, .int t_weekNext, .int t_breaths, .int t_wallsRead, .ref t_kinds, .ref t_deep, .ref t_leans, .ref t_moss, .ref t_rain, .ref t_mossThen, .ref t_when, .int t_needsDone, .int t_seenMany, .ref t_sights, .int t_seedNow, .int t_keptWall, .int t_keptWeek, .int t_keptBreaths, .int t_keptSeen, .ref t_keptKinds, .ref t_keptDeep, .ref t_keptLeans, .ref t_keptMoss, .ref t_keptSights, .long t_hash])), (t_kinds, .inl (cA, 6, .inl c_t_kinds)), (t_deep, .inl (cA, 6, .inl c_t_deep)), (t_leans, .inl (cA, 6, .inl c_t_leans)), (p1, .inl (cA, n_p1, .inl c_p1))] U.heap ∧ mw_ev D cA U)) (vp_Si (fun v => v = r)) 0 0 (fun _ => False) := by
  unfold mX7_forceBits at hM
  refine Met.ofW (cc := cX7_forceBits) (maxL := 5) (ret := (some .int)) (by decide) rfl ?_
  intro p e s m args below meth c s₁ B hml hv
  obtain ⟨rfl, hP, hE⟩ := hv
  have hx := B.exec
  have hb := B.bytes
  have hr := B.returns
  have hts := atoms_spec (ws := wsX7_forceBits) B.pre
  have hown : s.vm.findClass RX7 = some m.cls := findClass_of_methodNamed B.named
  have hlocks := B.notSynchronized
  have hK := hE.1
  have hl := lv_entry ([.ref t, .ref p1]) (n := 5) (Nat.le_of_ble_eq_true rfl)
  rw [lg_entry_eq]
  generalize (lg_sl ([.ref t, .ref p1]) ++ List.replicate (5 - (lg_sl ([.ref t, .ref p1])).length) Slot.unset).toArray = ls at hl ⊢
  have hl : lv_has ls 5 [(0, .ref t), (1, .ref p1)] := hl
  refine mw_q (P := fun Q => W p l e (headSpec wsX7_forceBits rmX7_forceBits).room s m (([.ref t, .ref p1] : List Value).toArray) below meth c s.heap [] 0 0 Q (F0 m 0 ls [])) (fun Q hQ => ?_)
  refine lv_iconst (v := 0) hx hb dX7_forceBits_0 (by decide) ?_
  refine lv_istore_n (lv' := [(2, .int 0), (0, .ref t), (1, .ref p1)]) hx hb dX7_forceBits_1 rfl hl (by decide) rfl (fun ls hl => ?_)
  refine lv_iconst (v := 0) hx hb dX7_forceBits_2 (by decide) ?_
  refine lv_istore_n (lv' := [(3, .int 0), (2, .int 0), (0, .ref t), (1, .ref p1)]) hx hb dX7_forceBits_3 rfl hl (by decide) rfl (fun ls hl => ?_)
  obtain ⟨k1_83, jk1_83⟩ : ∃ k : Int32 → Int32 → Option Int32, k = fun (x3_1 : Int32) (x2_1 : Int32) => some x2_1 := ⟨_, rfl⟩
  have Ek1_83 : ∀ (x3_1 : Int32) (x2_1 : Int32) (ls : Array Slot), lv_has ls 5 [(3, .int x3_1), (2, .int x2_1), (0, .ref t), (1, .ref p1)] → k1_83 x3_1 x2_1 = some r → W p l e (headSpec wsX7_forceBits rmX7_forceBits).room s m (([.ref t, .ref p1] : List Value).toArray) below meth c s.heap [] 0 0 Q (F0 m 83 ls []) := by
      intro x3_1 x2_1 ls hl hM
      rw [jk1_83] at hM
      refine lv_iload_n hx hb dX7_forceBits_83 rfl (lv_at hl 1 rfl) ?_
      obtain rfl := mw_o1 hM
      subst hQ
      exact W.iret hx hb hr (fun t ht hW => ⟨_, rfl, rfl, ht⟩) (fun q h => absurd h List.not_mem_nil) dX7_forceBits_84
  have L1 : ∀ (n1 : Nat) (x3_1 : Int32) (x2_1 : Int32) (ls : Array Slot), lv_has ls 5 [(3, .int x3_1), (2, .int x2_1), (0, .ref t), (1, .ref p1)] → mX7_forceBits_L1 t_clauses c_t_kinds c_t_deep c_t_leans n_p1 c_p1 k1_83 n1 x3_1 x2_1 = some r → W p l e (headSpec wsX7_forceBits rmX7_forceBits).room s m (([.ref t, .ref p1] : List Value).toArray) below meth c s.heap [] 0 0 Q (F0 m 4 ls []) := by
      intro n1
      induction n1 with
      | zero =>
        intro x3_1 x2_1 ls hl hM
        rw [mX7_forceBits_L1] at hM
        exact mw_none hM
      | succ n1 ih1 =>
        intro x3_1 x2_1 ls hl hM
        rw [mX7_forceBits_L1] at hM
        refine lv_iload_n hx hb dX7_forceBits_4 rfl (lv_at hl 0 rfl) ?_
        refine lv_aload_n hx hb dX7_forceBits_5 rfl (lv_at hl 2 rfl) ?_
        refine va_get (D := D) (ci := 7) (v := .int t_clauses) (C := RX7) (T := TX7) (N := 29) hx hb hts (fun _ h => List.mem_cons_of_mem _ (List.mem_append_right _ (h))) hown hK hP 0 rfl rfl 3 (by decide) (hts (.fieldLink RX7 88 "MossWallModel" "clauses" "I") (List.mem_cons_of_mem _ (List.mem_append_left _ (List.mem_of_getElem? (i := 0) rfl)))) (fun _ h9 => h9) rfl dX7_forceBits_6 ?_
        refine lv_icmp_ge (tgt := 83) hx hb dX7_forceBits_9 (by decide) (fun q1 => ?_) (fun q1 => ?_)
        · replace hM := mw_t hM q1
          exact Ek1_83 x3_1 x2_1 _ (lv_sub hl [0, 1, 2, 3] rfl) hM
        · replace hM := mw_f hM q1
          refine lv_aload_n hx hb dX7_forceBits_12 rfl (lv_at hl 2 rfl) ?_
          refine lv_aload_n hx hb dX7_forceBits_13 rfl (lv_at hl 3 rfl) ?_
          refine lv_iload_n hx hb dX7_forceBits_14 rfl (lv_at hl 0 rfl) ?_
          obtain ⟨r2, h2, hM⟩ := mw_d1 hM
          have hPc := hP.sub (ws' := [(t, .inr (7, [.ref t_page, .int t_pageMany, .int t_end, .int t_clauses, .int t_rains, .int t_weekNext, .int t_breaths, .int t_wallsRead, .ref t_kinds, .ref t_deep, .ref t_leans, .ref t_moss, .ref t_rain, .ref t_mossThen, .ref t_when, .int t_needsDone, .int t_seenMany, .ref t_sights, .int t_seedNow, .int t_keptWall, .int t_keptWeek, .int t_keptBreaths, .int t_keptSeen, .ref t_keptKinds, .ref t_keptDeep, .ref t_keptLeans, .ref t_keptMoss, .ref t_keptSights, .long t_hash])), (t_deep, .inl (cA, 6, .inl c_t_deep)), (p1, .inl (cA, n_p1, .inl c_p1))]) [0, 2, 4] rfl
          refine vp_callSi (va_Run.run (va_runV (As := [.ref p1, .int x3_1]) (rest := []) ⟨hx, hb, hml, hown, hts⟩ (kX7_isClosed l D cA t p1 t_page t_kinds t_deep t_leans t_moss t_rain t_mossThen t_when t_sights t_keptKinds t_keptDeep t_keptLeans t_keptMoss t_keptSights t_pageMany t_end t_clauses t_rains t_weekNext t_breaths t_wallsRead t_needsDone t_seenMany t_seedNow t_keptWall t_keptWeek t_keptBreaths t_keptSeen t_hash c_t_deep n_p1 c_p1 x3_1 r2 h2) (cwV 2 hts gX7_forceBits_X7_isClosed rfl rfl rfl (by decide +kernel) ⟨Nat.le_of_ble_eq_true rfl, Nat.le_of_ble_eq_true rfl⟩) ⟨mw_fbR, va_recv hK hP (ci := 7) (q0 := 0) rfl rfl, mw_puR hPc hE⟩ rfl rfl hl.1 rfl (lv_room (Nat.le_of_ble_eq_true rfl)) dX7_forceBits_15 ⟨Nat.zero_le _, Nat.zero_le _⟩)) (fun v_ e_ => ?_)
          obtain ⟨e_, b2⟩ := e_
          subst v_
          refine lv_if_eq (tgt := 59) hx hb dX7_forceBits_18 (by decide) (fun q3 => ?_) (fun q3 => ?_)
          · replace hM := mw_t hM q3
            refine lv_iconst (v := 0) hx hb dX7_forceBits_59 (by decide) ?_
            refine lv_istore (lv' := [(4, .int 0), (3, .int x3_1), (2, .int x2_1), (0, .ref t), (1, .ref p1)]) hx hb dX7_forceBits_60 hl (by decide) rfl (fun ls hl => ?_)
            refine lv_iload_n hx hb dX7_forceBits_62 rfl (lv_at hl 2 rfl) ?_
            refine lv_iload hx hb dX7_forceBits_63 (lv_at hl 0 rfl) ?_
            refine lv_if_eq (tgt := 74) hx hb dX7_forceBits_65 (by decide) (fun _ => ?_) (fun h => absurd (by decide) h)
            refine lv_iconst (v := 0) hx hb dX7_forceBits_74 (by decide) ?_
            refine lv_ior hx hb dX7_forceBits_75 ?_
            refine lv_istore_n (lv' := [(2, .int (x2_1 ||| 0)), (4, .int 0), (3, .int x3_1), (0, .ref t), (1, .ref p1)]) hx hb dX7_forceBits_76 rfl hl (by decide) rfl (fun ls hl => ?_)
            refine lv_iinc (v := x3_1 + 1) (lv' := [(3, .int (x3_1 + 1)), (2, .int (x2_1 ||| 0)), (4, .int 0), (0, .ref t), (1, .ref p1)]) hx hb dX7_forceBits_77 hl (k := 2) rfl (by first | rfl | decide) (by decide) rfl (fun ls hl => ?_)
            refine lv_goto (tgt := 4) hx hb dX7_forceBits_80 (by decide) ?_
            exact ih1 (x3_1 + 1) (x2_1 ||| 0) _ (lv_sub hl [0, 1, 3, 4] rfl) hM
          · replace hM := mw_f hM q3
            refine lv_aload_n hx hb dX7_forceBits_21 rfl (lv_at hl 2 rfl) ?_
            refine va_get (D := D) (ci := 7) (v := .ref t_kinds) (C := RX7) (T := TX7) (N := 29) hx hb hts (fun _ h => List.mem_cons_of_mem _ (List.mem_append_right _ (h))) hown hK hP 0 rfl rfl 8 (by decide) (hts (.fieldLink RX7 13 "MossWallModel" "kinds" "[I") (List.mem_cons_of_mem _ (List.mem_append_left _ (List.mem_of_getElem? (i := 1) rfl)))) (fun _ h9 => h9) rfl dX7_forceBits_22 ?_
            refine lv_iload_n hx hb dX7_forceBits_25 rfl (lv_at hl 0 rfl) ?_
            obtain ⟨e4, h4, hM⟩ := mw_d1 hM
            refine mw_iald hx hb hK hP 1 0 rfl rfl h4 dX7_forceBits_26 ?_
            refine lv_iconst (v := 3) hx hb dX7_forceBits_27 (by decide) ?_
            refine lv_icmp_eq (tgt := 59) hx hb dX7_forceBits_28 (by decide) (fun q5 => ?_) (fun q5 => ?_)
            · replace hM := mw_t hM q5
              refine lv_iconst (v := 0) hx hb dX7_forceBits_59 (by decide) ?_
              refine lv_istore (lv' := [(4, .int 0), (3, .int x3_1), (2, .int x2_1), (0, .ref t), (1, .ref p1)]) hx hb dX7_forceBits_60 hl (by decide) rfl (fun ls hl => ?_)
              refine lv_iload_n hx hb dX7_forceBits_62 rfl (lv_at hl 2 rfl) ?_
              refine lv_iload hx hb dX7_forceBits_63 (lv_at hl 0 rfl) ?_
              refine lv_if_eq (tgt := 74) hx hb dX7_forceBits_65 (by decide) (fun _ => ?_) (fun h => absurd (by decide) h)
              refine lv_iconst (v := 0) hx hb dX7_forceBits_74 (by decide) ?_
              refine lv_ior hx hb dX7_forceBits_75 ?_
              refine lv_istore_n (lv' := [(2, .int (x2_1 ||| 0)), (4, .int 0), (3, .int x3_1), (0, .ref t), (1, .ref p1)]) hx hb dX7_forceBits_76 rfl hl (by decide) rfl (fun ls hl => ?_)
              refine lv_iinc (v := x3_1 + 1) (lv' := [(3, .int (x3_1 + 1)), (2, .int (x2_1 ||| 0)), (4, .int 0), (0, .ref t), (1, .ref p1)]) hx hb dX7_forceBits_77 hl (k := 2) rfl (by first | rfl | decide) (by decide) rfl (fun ls hl => ?_)
              refine lv_goto (tgt := 4) hx hb dX7_forceBits_80 (by decide) ?_
              exact ih1 (x3_1 + 1) (x2_1 ||| 0) _ (lv_sub hl [0, 1, 3, 4] rfl) hM
            · replace hM := mw_f hM q5
              refine lv_aload_n hx hb dX7_forceBits_31 rfl (lv_at hl 2 rfl) ?_
              refine va_get (D := D) (ci := 7) (v := .ref t_leans) (C := RX7) (T := TX7) (N := 29) hx hb hts (fun _ h => List.mem_cons_of_mem _ (List.mem_append_right _ (h))) hown hK hP 0 rfl rfl 10 (by decide) (hts (.fieldLink RX7 19 "MossWallModel" "leans" "[I") (List.mem_cons_of_mem _ (List.mem_append_left _ (List.mem_of_getElem? (i := 2) rfl)))) (fun _ h9 => h9) rfl dX7_forceBits_32 ?_
              refine lv_iload_n hx hb dX7_forceBits_35 rfl (lv_at hl 0 rfl) ?_
              obtain ⟨e6, h6, hM⟩ := mw_d1 hM
              refine mw_iald hx hb hK hP 3 0 rfl rfl h6 dX7_forceBits_36 ?_
              refine lv_iconst (v := (-1)) hx hb dX7_forceBits_37 (by decide) ?_
              refine lv_icmp_eq (tgt := 55) hx hb dX7_forceBits_38 (by decide) (fun q7 => ?_) (fun q7 => ?_)
              · replace hM := mw_t hM q7
                refine lv_iconst (v := 1) hx hb dX7_forceBits_55 (by decide) ?_
                refine lv_goto (tgt := 60) hx hb dX7_forceBits_56 (by decide) ?_
                refine lv_istore (lv' := [(4, .int 1), (3, .int x3_1), (2, .int x2_1), (0, .ref t), (1, .ref p1)]) hx hb dX7_forceBits_60 hl (by decide) rfl (fun ls hl => ?_)
                refine lv_iload_n hx hb dX7_forceBits_62 rfl (lv_at hl 2 rfl) ?_
                refine lv_iload hx hb dX7_forceBits_63 (lv_at hl 0 rfl) ?_
                refine lv_if_eq (tgt := 74) hx hb dX7_forceBits_65 (by decide) (fun h => absurd h (by decide)) (fun _ => ?_)
                refine lv_iconst (v := 1) hx hb dX7_forceBits_68 (by decide) ?_
                refine lv_iload_n hx hb dX7_forceBits_69 rfl (lv_at hl 1 rfl) ?_
                refine lv_ishl hx hb dX7_forceBits_70 ?_
                refine lv_goto (tgt := 75) hx hb dX7_forceBits_71 (by decide) ?_
                refine lv_ior hx hb dX7_forceBits_75 ?_
                refine lv_istore_n (lv' := [(2, .int (x2_1 ||| (1 <<< (x3_1 &&& 31)))), (4, .int 1), (3, .int x3_1), (0, .ref t), (1, .ref p1)]) hx hb dX7_forceBits_76 rfl hl (by decide) rfl (fun ls hl => ?_)
                refine lv_iinc (v := x3_1 + 1) (lv' := [(3, .int (x3_1 + 1)), (2, .int (x2_1 ||| (1 <<< (x3_1 &&& 31)))), (4, .int 1), (0, .ref t), (1, .ref p1)]) hx hb dX7_forceBits_77 hl (k := 2) rfl (by first | rfl | decide) (by decide) rfl (fun ls hl => ?_)
                refine lv_goto (tgt := 4) hx hb dX7_forceBits_80 (by decide) ?_
                exact ih1 (x3_1 + 1) (x2_1 ||| (1 <<< (x3_1 &&& 31))) _ (lv_sub hl [0, 1, 3, 4] rfl) hM
              · replace hM := mw_f hM q7
                refine lv_iload_n hx hb dX7_forceBits_41 rfl (lv_at hl 1 rfl) ?_
                refine lv_aload_n hx hb dX7_forceBits_42 rfl (lv_at hl 2 rfl) ?_
                refine va_get (D := D) (ci := 7) (v := .ref t_leans) (C := RX7) (T := TX7) (N := 29) hx hb hts (fun _ h => List.mem_cons_of_mem _ (List.mem_append_right _ (h))) hown hK hP 0 rfl rfl 10 (by decide) (hts (.fieldLink RX7 19 "MossWallModel" "leans" "[I") (List.mem_cons_of_mem _ (List.mem_append_left _ (List.mem_of_getElem? (i := 2) rfl)))) (fun _ h9 => h9) rfl dX7_forceBits_43 ?_
                refine lv_iload_n hx hb dX7_forceBits_46 rfl (lv_at hl 0 rfl) ?_
                obtain ⟨e8, h8, hM⟩ := mw_d1 hM
                refine mw_iald hx hb hK hP 3 0 rfl rfl h8 dX7_forceBits_47 ?_
                refine lv_ishr hx hb dX7_forceBits_48 ?_
                refine lv_iconst (v := 1) hx hb dX7_forceBits_49 (by decide) ?_
                refine lv_iand hx hb dX7_forceBits_50 ?_
                refine lv_iconst (v := 1) hx hb dX7_forceBits_51 (by decide) ?_
                refine lv_icmp_ne (tgt := 59) hx hb dX7_forceBits_52 (by decide) (fun q9 => ?_) (fun q9 => ?_)
                · replace hM := mw_f hM q9
                  refine lv_iconst (v := 0) hx hb dX7_forceBits_59 (by decide) ?_
                  refine lv_istore (lv' := [(4, .int 0), (3, .int x3_1), (2, .int x2_1), (0, .ref t), (1, .ref p1)]) hx hb dX7_forceBits_60 hl (by decide) rfl (fun ls hl => ?_)
                  refine lv_iload_n hx hb dX7_forceBits_62 rfl (lv_at hl 2 rfl) ?_
                  refine lv_iload hx hb dX7_forceBits_63 (lv_at hl 0 rfl) ?_
                  refine lv_if_eq (tgt := 74) hx hb dX7_forceBits_65 (by decide) (fun _ => ?_) (fun h => absurd (by decide) h)
                  refine lv_iconst (v := 0) hx hb dX7_forceBits_74 (by decide) ?_
                  refine lv_ior hx hb dX7_forceBits_75 ?_
                  refine lv_istore_n (lv' := [(2, .int (x2_1 ||| 0)), (4, .int 0), (3, .int x3_1), (0, .ref t), (1, .ref p1)]) hx hb dX7_forceBits_76 rfl hl (by decide) rfl (fun ls hl => ?_)
                  refine lv_iinc (v := x3_1 + 1) (lv' := [(3, .int (x3_1 + 1)), (2, .int (x2_1 ||| 0)), (4, .int 0), (0, .ref t), (1, .ref p1)]) hx hb dX7_forceBits_77 hl (k := 2) rfl (by first | rfl | decide) (by decide) rfl (fun ls hl => ?_)
                  refine lv_goto (tgt := 4) hx hb dX7_forceBits_80 (by decide) ?_
                  exact ih1 (x3_1 + 1) (x2_1 ||| 0) _ (lv_sub hl [0, 1, 3, 4] rfl) hM
                · replace hM := mw_t hM q9
                  refine lv_iconst (v := 1) hx hb dX7_forceBits_55 (by decide) ?_
                  refine lv_goto (tgt := 60) hx hb dX7_forceBits_56 (by decide) ?_
                  refine lv_istore (lv' := [(4, .int 1), (3, .int x3_1), (2, .int x2_1), (0, .ref t), (1, .ref p1)]) hx hb dX7_forceBits_60 hl (by decide) rfl (fun ls hl => ?_)
                  refine lv_iload_n hx hb dX7_forceBits_62 rfl (lv_at hl 2 rfl) ?_
                  refine lv_iload hx hb dX7_forceBits_63 (lv_at hl 0 rfl) ?_
                  refine lv_if_eq (tgt := 74) hx hb dX7_forceBits_65 (by decide) (fun h => absurd h (by decide)) (fun _ => ?_)
                  refine lv_iconst (v := 1) hx hb dX7_forceBits_68 (by decide) ?_
                  refine lv_iload_n hx hb dX7_forceBits_69 rfl (lv_at hl 1 rfl) ?_
                  refine lv_ishl hx hb dX7_forceBits_70 ?_
                  refine lv_goto (tgt := 75) hx hb dX7_forceBits_71 (by decide) ?_
                  refine lv_ior hx hb dX7_forceBits_75 ?_
                  refine lv_istore_n (lv' := [(2, .int (x2_1 ||| (1 <<< (x3_1 &&& 31)))), (4, .int 1), (3, .int x3_1), (0, .ref t), (1, .ref p1)]) hx hb dX7_forceBits_76 rfl hl (by decide) rfl (fun ls hl => ?_)
                  refine lv_iinc (v := x3_1 + 1) (lv' := [(3, .int (x3_1 + 1)), (2, .int (x2_1 ||| (1 <<< (x3_1 &&& 31)))), (4, .int 1), (0, .ref t), (1, .ref p1)]) hx hb dX7_forceBits_77 hl (k := 2) rfl (by first | rfl | decide) (by decide) rfl (fun ls hl => ?_)
                  refine lv_goto (tgt := 4) hx hb dX7_forceBits_80 (by decide) ?_
                  exact ih1 (x3_1 + 1) (x2_1 ||| (1 <<< (x3_1 &&& 31))) _ (lv_sub hl [0, 1, 3, 4] rfl) hM
  exact L1 300 0 0 _ hl (by rw [jk1_83]; exact hM)
def mX7_rainOf (t_rains : Int32) (c_t_rain : Nat → Int32) (p1 : Int32) : Option Int32 :=
  (mw_rm p1 t_rains).bind fun e1 => (mw_rd c_t_rain 8 e1).bind fun e2 => some e2
abbrev rmX7_rainOf : Room := ({ frames := 0, cells := 0, slots := 0, locals := 0 } : Room)
set_option maxHeartbeats 4000000 in
set_option maxRecDepth 100000 in
theorem kX7_rainOf (l : Launch) (D : va_G) (cA : ClassId) (t t_page t_kinds t_deep t_leans t_moss t_rain t_mossThen t_when t_sights t_keptKinds t_keptDeep t_keptLeans t_keptMoss t_keptSights : Nat) (t_pageMany : Int32) (t_end : Int32) (t_clauses : Int32) (t_rains : Int32) (t_weekNext : Int32) (t_breaths : Int32) (t_wallsRead : Int32) (t_needsDone : Int32) (t_seenMany : Int32) (t_seedNow : Int32) (t_keptWall : Int32) (t_keptWeek : Int32) (t_keptBreaths : Int32) (t_keptSeen : Int32) (t_hash : Int64) (c_t_rain : Nat → Int32) (p1 : Int32) (r : Int32) (hM : mX7_rainOf t_rains c_t_rain p1 = some r) : Met l yX7_rainOf wsX7_rainOf rmX7_rainOf (va_Pc [.ref t, .int p1] (fun U => va_P D vwCl [(t, .inr (7, [.ref t_page, .int t_pageMany, .int t_end, .int t_clauses, .int t_rains, .int t_weekNext, .int t_breaths, .int t_wallsRead, .ref t_kinds, .ref t_deep, .ref t_leans, .ref t_moss, .ref t_rain, .ref t_mossThen, .ref t_when, .int t_needsDone, .int t_seenMany, .ref t_sights, .int t_seedNow, .int t_keptWall, .int t_keptWeek, .int t_keptBreaths, .int t_keptSeen, .ref t_keptKinds, .ref t_keptDeep, .ref t_keptLeans, .ref t_keptMoss, .ref t_keptSights, .long t_hash])), (t_rain, .inl (cA, 8, .inl c_t_rain))] U.heap ∧ mw_ev D cA U)) (vp_Si (fun v => v = r)) 0 0 (fun _ => False) := by
  unfold mX7_rainOf at hM
  refine Met.ofW (cc := cX7_rainOf) (maxL := 2) (ret := (some .int)) (by decide) rfl ?_
  intro p e s m args below meth c s₁ B hml hv
  obtain ⟨rfl, hP, hE⟩ := hv
  have hx := B.exec
  have hb := B.bytes
  have hr := B.returns
  have hts := atoms_spec (ws := wsX7_rainOf) B.pre
  have hown : s.vm.findClass RX7 = some m.cls := findClass_of_methodNamed B.named
  have hlocks := B.notSynchronized
  have hK := hE.1
  have hl := lv_entry ([.ref t, .int p1]) (n := 2) (Nat.le_of_ble_eq_true rfl)
  rw [lg_entry_eq]
  generalize (lg_sl ([.ref t, .int p1]) ++ List.replicate (2 - (lg_sl ([.ref t, .int p1])).length) Slot.unset).toArray = ls at hl ⊢
  have hl : lv_has ls 2 [(0, .ref t), (1, .int p1)] := hl
  refine mw_q (P := fun Q => W p l e (headSpec wsX7_rainOf rmX7_rainOf).room s m (([.ref t, .int p1] : List Value).toArray) below meth c s.heap [] 0 0 Q (F0 m 0 ls [])) (fun Q hQ => ?_)
  refine lv_aload_n hx hb dX7_rainOf_0 rfl (lv_at hl 0 rfl) ?_
  refine va_get (D := D) (ci := 7) (v := .ref t_rain) (C := RX7) (T := TX7) (N := 29) hx hb hts (fun _ h => List.mem_cons_of_mem _ (List.mem_append_right _ (h))) hown hK hP 0 rfl rfl 12 (by decide) (hts (.fieldLink RX7 25 "MossWallModel" "rain" "[I") (List.mem_cons_of_mem _ (List.mem_append_left _ (List.mem_of_getElem? (i := 0) rfl)))) (fun _ h9 => h9) rfl dX7_rainOf_1 ?_
  refine lv_iload_n hx hb dX7_rainOf_4 rfl (lv_at hl 1 rfl) ?_
  refine lv_aload_n hx hb dX7_rainOf_5 rfl (lv_at hl 0 rfl) ?_
  refine va_get (D := D) (ci := 7) (v := .int t_rains) (C := RX7) (T := TX7) (N := 29) hx hb hts (fun _ h => List.mem_cons_of_mem _ (List.mem_append_right _ (h))) hown hK hP 0 rfl rfl 4 (by decide) (hts (.fieldLink RX7 91 "MossWallModel" "rains" "I") (List.mem_cons_of_mem _ (List.mem_append_left _ (List.mem_of_getElem? (i := 1) rfl)))) (fun _ h9 => h9) rfl dX7_rainOf_6 ?_
  obtain ⟨e1, h1, hM⟩ := mw_d1 hM
  refine mw_irem hx hb h1 dX7_rainOf_9 ?_
  obtain ⟨e2, h2, hM⟩ := mw_d1 hM
  refine mw_iald hx hb hK hP 1 0 rfl rfl h2 dX7_rainOf_10 ?_
  obtain rfl := mw_o1 hM
  subst hQ
  exact W.iret hx hb hr (fun t ht hW => ⟨_, rfl, rfl, ht⟩) (fun q h => absurd h List.not_mem_nil) dX7_rainOf_11
def mX7_rain (t_clauses : Int32) (t_rains : Int32) (c_t_rain : Nat → Int32) (p1 : Int32) : Option Int32 :=
  (if 0 ≤ p1 then (mX7_lacks t_clauses).bind fun r2 => (if r2 = 0 then (mX7_rainOf t_rains c_t_rain p1).bind fun r4 => some r4 else some ((-103))) else some ((-102)))
abbrev rmX7_rain : Room := ({ frames := 1, cells := 0, slots := 0, locals := 21 } : Room)
set_option maxHeartbeats 4000000 in
set_option maxRecDepth 100000 in
theorem kX7_rain (l : Launch) (D : va_G) (cA : ClassId) (t t_page t_kinds t_deep t_leans t_moss t_rain t_mossThen t_when t_sights t_keptKinds t_keptDeep t_keptLeans t_keptMoss t_keptSights : Nat) (t_pageMany : Int32) (t_end : Int32) (t_clauses : Int32) (t_rains : Int32) (t_weekNext : Int32) (t_breaths : Int32) (t_wallsRead : Int32) (t_needsDone : Int32) (t_seenMany : Int32) (t_seedNow : Int32) (t_keptWall : Int32) (t_keptWeek : Int32) (t_keptBreaths : Int32) (t_keptSeen : Int32) (t_hash : Int64) (c_t_rain : Nat → Int32) (p1 : Int32) (r : Int32) (hM : mX7_rain t_clauses t_rains c_t_rain p1 = some r) : Met l yX7_rain wsX7_rain rmX7_rain (va_Pc [.ref t, .int p1] (fun U => va_P D vwCl [(t, .inr (7, [.ref t_page, .int t_pageMany, .int t_end, .int t_clauses, .int t_rains, .int t_weekNext, .int t_breaths, .int t_wallsRead, .ref t_kinds, .ref t_deep, .ref t_leans, .ref t_moss, .ref t_rain, .ref t_mossThen, .ref t_when, .int t_needsDone, .int t_seenMany, .ref t_sights, .int t_seedNow, .int t_keptWall, .int t_keptWeek, .int t_keptBreaths, .int t_keptSeen, .ref t_keptKinds, .ref t_keptDeep, .ref t_keptLeans, .ref t_keptMoss, .ref t_keptSights, .long t_hash])), (t_rain, .inl (cA, 8, .inl c_t_rain))] U.heap ∧ mw_ev D cA U)) (vp_Si (fun v => v = r)) 0 0 (fun _ => False) := by
  unfold mX7_rain at hM
  refine Met.ofW (cc := cX7_rain) (maxL := 2) (ret := (some .int)) (by decide) rfl ?_
  intro p e s m args below meth c s₁ B hml hv
  obtain ⟨rfl, hP, hE⟩ := hv
  have hx := B.exec
  have hb := B.bytes
  have hr := B.returns
  have hts := atoms_spec (ws := wsX7_rain) B.pre
  have hown : s.vm.findClass RX7 = some m.cls := findClass_of_methodNamed B.named
  have hlocks := B.notSynchronized
  have hK := hE.1
  have hl := lv_entry ([.ref t, .int p1]) (n := 2) (Nat.le_of_ble_eq_true rfl)
  rw [lg_entry_eq]
  generalize (lg_sl ([.ref t, .int p1]) ++ List.replicate (2 - (lg_sl ([.ref t, .int p1])).length) Slot.unset).toArray = ls at hl ⊢
  have hl : lv_has ls 2 [(0, .ref t), (1, .int p1)] := hl
  refine mw_q (P := fun Q => W p l e (headSpec wsX7_rain rmX7_rain).room s m (([.ref t, .int p1] : List Value).toArray) below meth c s.heap [] 0 0 Q (F0 m 0 ls [])) (fun Q hQ => ?_)
  refine lv_iload_n hx hb dX7_rain_0 rfl (lv_at hl 1 rfl) ?_
  refine lv_if_ge (tgt := 7) hx hb dX7_rain_1 (by decide) (fun q1 => ?_) (fun q1 => ?_)
  · replace hM := mw_t hM q1
    refine lv_aload_n hx hb dX7_rain_7 rfl (lv_at hl 0 rfl) ?_
    obtain ⟨r2, h2, hM⟩ := mw_d1 hM
    have hPc := hP.sub (ws' := [(t, .inr (7, [.ref t_page, .int t_pageMany, .int t_end, .int t_clauses, .int t_rains, .int t_weekNext, .int t_breaths, .int t_wallsRead, .ref t_kinds, .ref t_deep, .ref t_leans, .ref t_moss, .ref t_rain, .ref t_mossThen, .ref t_when, .int t_needsDone, .int t_seenMany, .ref t_sights, .int t_seedNow, .int t_keptWall, .int t_keptWeek, .int t_keptBreaths, .int t_keptSeen, .ref t_keptKinds, .ref t_keptDeep, .ref t_keptLeans, .ref t_keptMoss, .ref t_keptSights, .long t_hash]))]) [0] rfl
    refine vp_callSi (va_Run.run (va_runV (As := []) (rest := []) ⟨hx, hb, hml, hown, hts⟩ (kX7_lacks l D cA t t_page t_kinds t_deep t_leans t_moss t_rain t_mossThen t_when t_sights t_keptKinds t_keptDeep t_keptLeans t_keptMoss t_keptSights t_pageMany t_end t_clauses t_rains t_weekNext t_breaths t_wallsRead t_needsDone t_seenMany t_seedNow t_keptWall t_keptWeek t_keptBreaths t_keptSeen t_hash r2 h2) (cwV 0 hts gX7_rain_X7_lacks rfl rfl rfl (by decide +kernel) ⟨Nat.le_of_ble_eq_true rfl, Nat.le_of_ble_eq_true rfl⟩) ⟨mw_fbR, va_recv hK hP (ci := 7) (q0 := 0) rfl rfl, mw_puR hPc hE⟩ rfl rfl hl.1 rfl (lv_room (Nat.le_of_ble_eq_true rfl)) dX7_rain_8 ⟨Nat.zero_le _, Nat.zero_le _⟩)) (fun v_ e_ => ?_)
    obtain ⟨e_, b2⟩ := e_
    subst v_
    refine lv_if_eq (tgt := 19) hx hb dX7_rain_11 (by decide) (fun q3 => ?_) (fun q3 => ?_)
    · replace hM := mw_t hM q3
      refine lv_aload_n hx hb dX7_rain_19 rfl (lv_at hl 0 rfl) ?_
      refine lv_iload_n hx hb dX7_rain_20 rfl (lv_at hl 1 rfl) ?_
      obtain ⟨r4, h4, hM⟩ := mw_d1 hM
      have hPc := hP.sub (ws' := [(t, .inr (7, [.ref t_page, .int t_pageMany, .int t_end, .int t_clauses, .int t_rains, .int t_weekNext, .int t_breaths, .int t_wallsRead, .ref t_kinds, .ref t_deep, .ref t_leans, .ref t_moss, .ref t_rain, .ref t_mossThen, .ref t_when, .int t_needsDone, .int t_seenMany, .ref t_sights, .int t_seedNow, .int t_keptWall, .int t_keptWeek, .int t_keptBreaths, .int t_keptSeen, .ref t_keptKinds, .ref t_keptDeep, .ref t_keptLeans, .ref t_keptMoss, .ref t_keptSights, .long t_hash])), (t_rain, .inl (cA, 8, .inl c_t_rain))]) [0, 1] rfl
      refine vp_callSi (va_Run.run (va_runV (As := [.int p1]) (rest := []) ⟨hx, hb, hml, hown, hts⟩ (kX7_rainOf l D cA t t_page t_kinds t_deep t_leans t_moss t_rain t_mossThen t_when t_sights t_keptKinds t_keptDeep t_keptLeans t_keptMoss t_keptSights t_pageMany t_end t_clauses t_rains t_weekNext t_breaths t_wallsRead t_needsDone t_seenMany t_seedNow t_keptWall t_keptWeek t_keptBreaths t_keptSeen t_hash c_t_rain p1 r4 h4) (cwV 1 hts gX7_rain_X7_rainOf rfl rfl rfl (by decide +kernel) ⟨Nat.le_of_ble_eq_true rfl, Nat.le_of_ble_eq_true rfl⟩) ⟨mw_fbR, va_recv hK hP (ci := 7) (q0 := 0) rfl rfl, mw_puR hPc hE⟩ rfl rfl hl.1 rfl (lv_room (Nat.le_of_ble_eq_true rfl)) dX7_rain_21 ⟨Nat.zero_le _, Nat.zero_le _⟩)) (fun v_ e_ => ?_)
      subst v_
      obtain rfl := mw_o1 hM
      subst hQ
      exact W.iret hx hb hr (fun t ht hW => ⟨_, rfl, rfl, ht⟩) (fun q h => absurd h List.not_mem_nil) dX7_rain_24
    · replace hM := mw_f hM q3
      refine lv_bipush (v := (-103)) hx hb dX7_rain_14 (by decide) ?_
      refine lv_goto (tgt := 24) hx hb dX7_rain_16 (by decide) ?_
      obtain rfl := mw_o1 hM
      subst hQ
      exact W.iret hx hb hr (fun t ht hW => ⟨_, rfl, rfl, ht⟩) (fun q h => absurd h List.not_mem_nil) dX7_rain_24
  · replace hM := mw_f hM q1
    refine lv_bipush (v := (-102)) hx hb dX7_rain_4 (by decide) ?_
    obtain rfl := mw_o1 hM
    subst hQ
    exact W.iret hx hb hr (fun t ht hW => ⟨_, rfl, rfl, ht⟩) (fun q h => absurd h List.not_mem_nil) dX7_rain_6
def mX7_goOn_L1 (t_clauses : Int32) (t_rains : Int32) (t_weekNext : Int32) (c_t_kinds : Nat → Int32) (c_t_deep : Nat → Int32) (c_t_leans : Nat → Int32) (c_t_rain : Nat → Int32) (p1 : Int32) (k1_31 : Int32 → (Nat → Int32) → Option ((Nat → Int32))) : Nat → Int32 → (Nat → Int32) → Option ((Nat → Int32))
  | 0, _, _ => none
  | n1 + 1, x2_1, y1_t_mossThen =>
    (if p1 ≤ x2_1 then k1_31 x2_1 y1_t_mossThen else (mX7_rainOf t_rains c_t_rain (t_weekNext + x2_1)).bind fun r2 => (mX7_grow t_clauses c_t_kinds c_t_deep c_t_leans 6 y1_t_mossThen r2).bind fun u3_t_mossThen => mX7_goOn_L1 t_clauses t_rains t_weekNext c_t_kinds c_t_deep c_t_leans c_t_rain p1 k1_31 n1 (x2_1 + 1) u3_t_mossThen)
def mX7_goOn (t_clauses : Int32) (t_rains : Int32) (t_weekNext : Int32) (c_t_kinds : Nat → Int32) (c_t_deep : Nat → Int32) (c_t_leans : Nat → Int32) (c_t_rain : Nat → Int32) (c_t_mossThen : Nat → Int32) (p1 : Int32) : Option ((Nat → Int32)) :=
  mX7_goOn_L1 t_clauses t_rains t_weekNext c_t_kinds c_t_deep c_t_leans c_t_rain p1 (fun (x2_1 : Int32) (y1_t_mossThen : Nat → Int32) => some y1_t_mossThen) 300 0 c_t_mossThen
abbrev rmX7_goOn : Room := ({ frames := 3, cells := 0, slots := 0, locals := 71 } : Room)
set_option maxHeartbeats 4000000 in
set_option maxRecDepth 100000 in
theorem kX7_goOn (l : Launch) (D : va_G) (cA : ClassId) (t t_page t_kinds t_deep t_leans t_moss t_rain t_mossThen t_when t_sights t_keptKinds t_keptDeep t_keptLeans t_keptMoss t_keptSights : Nat) (sz : Nat) (t_pageMany : Int32) (t_end : Int32) (t_clauses : Int32) (t_rains : Int32) (t_weekNext : Int32) (t_breaths : Int32) (t_wallsRead : Int32) (t_needsDone : Int32) (t_seenMany : Int32) (t_seedNow : Int32) (t_keptWall : Int32) (t_keptWeek : Int32) (t_keptBreaths : Int32) (t_keptSeen : Int32) (t_hash : Int64) (c_t_kinds : Nat → Int32) (c_t_deep : Nat → Int32) (c_t_leans : Nat → Int32) (c_t_rain : Nat → Int32) (c_t_mossThen : Nat → Int32) (p1 : Int32) (o_c_t_mossThen : Nat → Int32) (hM : mX7_goOn t_clauses t_rains t_weekNext c_t_kinds c_t_deep c_t_leans c_t_rain c_t_mossThen p1 = some o_c_t_mossThen) : Met l yX7_goOn wsX7_goOn rmX7_goOn (va_Pc [.ref t, .int p1] (fun U => U.heap.size = sz ∧ va_P D vwCl [(t, .inr (7, [.ref t_page, .int t_pageMany, .int t_end, .int t_clauses, .int t_rains, .int t_weekNext, .int t_breaths, .int t_wallsRead, .ref t_kinds, .ref t_deep, .ref t_leans, .ref t_moss, .ref t_rain, .ref t_mossThen, .ref t_when, .int t_needsDone, .int t_seenMany, .ref t_sights, .int t_seedNow, .int t_keptWall, .int t_keptWeek, .int t_keptBreaths, .int t_keptSeen, .ref t_keptKinds, .ref t_keptDeep, .ref t_keptLeans, .ref t_keptMoss, .ref t_keptSights, .long t_hash])), (t_kinds, .inl (cA, 6, .inl c_t_kinds)), (t_deep, .inl (cA, 6, .inl c_t_deep)), (t_leans, .inl (cA, 6, .inl c_t_leans)), (t_rain, .inl (cA, 8, .inl c_t_rain)), (t_mossThen, .inl (cA, 6, .inl c_t_mossThen))] U.heap ∧ mw_ev D cA U ∧ va_D (fun _ => True) [(t, .inr (7, [.ref t_page, .int t_pageMany, .int t_end, .int t_clauses, .int t_rains, .int t_weekNext, .int t_breaths, .int t_wallsRead, .ref t_kinds, .ref t_deep, .ref t_leans, .ref t_moss, .ref t_rain, .ref t_mossThen, .ref t_when, .int t_needsDone, .int t_seenMany, .ref t_sights, .int t_seedNow, .int t_keptWall, .int t_keptWeek, .int t_keptBreaths, .int t_keptSeen, .ref t_keptKinds, .ref t_keptDeep, .ref t_keptLeans, .ref t_keptMoss, .ref t_keptSights, .long t_hash])), (t_kinds, .inl (cA, 6, .inl c_t_kinds)), (t_deep, .inl (cA, 6, .inl c_t_deep)), (t_leans, .inl (cA, 6, .inl c_t_leans)), (t_rain, .inl (cA, 8, .inl c_t_rain)), (t_mossThen, .inl (cA, 6, .inl c_t_mossThen))])) (va_Qv (fun (_ : Unit) => True) (fun (_ : Unit) w_ => va_P D vwCl [(t, .inr (7, [.ref t_page, .int t_pageMany, .int t_end, .int t_clauses, .int t_rains, .int t_weekNext, .int t_breaths, .int t_wallsRead, .ref t_kinds, .ref t_deep, .ref t_leans, .ref t_moss, .ref t_rain, .ref t_mossThen, .ref t_when, .int t_needsDone, .int t_seenMany, .ref t_sights, .int t_seedNow, .int t_keptWall, .int t_keptWeek, .int t_keptBreaths, .int t_keptSeen, .ref t_keptKinds, .ref t_keptDeep, .ref t_keptLeans, .ref t_keptMoss, .ref t_keptSights, .long t_hash])), (t_kinds, .inl (cA, 6, .inl c_t_kinds)), (t_deep, .inl (cA, 6, .inl c_t_deep)), (t_leans, .inl (cA, 6, .inl c_t_leans)), (t_rain, .inl (cA, 8, .inl c_t_rain)), (t_mossThen, .inl (cA, 6, .inl o_c_t_mossThen))] w_.heap ∧ va_D (va_A [(t, .inr (7, [.ref t_page, .int t_pageMany, .int t_end, .int t_clauses, .int t_rains, .int t_weekNext, .int t_breaths, .int t_wallsRead, .ref t_kinds, .ref t_deep, .ref t_leans, .ref t_moss, .ref t_rain, .ref t_mossThen, .ref t_when, .int t_needsDone, .int t_seenMany, .ref t_sights, .int t_seedNow, .int t_keptWall, .int t_keptWeek, .int t_keptBreaths, .int t_keptSeen, .ref t_keptKinds, .ref t_keptDeep, .ref t_keptLeans, .ref t_keptMoss, .ref t_keptSights, .long t_hash])), (t_kinds, .inl (cA, 6, .inl c_t_kinds)), (t_deep, .inl (cA, 6, .inl c_t_deep)), (t_leans, .inl (cA, 6, .inl c_t_leans)), (t_rain, .inl (cA, 8, .inl c_t_rain)), (t_mossThen, .inl (cA, 6, .inl c_t_mossThen))] sz) [(t, .inr (7, [.ref t_page, .int t_pageMany, .int t_end, .int t_clauses, .int t_rains, .int t_weekNext, .int t_breaths, .int t_wallsRead, .ref t_kinds, .ref t_deep, .ref t_leans, .ref t_moss, .ref t_rain, .ref t_mossThen, .ref t_when, .int t_needsDone, .int t_seenMany, .ref t_sights, .int t_seedNow, .int t_keptWall, .int t_keptWeek, .int t_keptBreaths, .int t_keptSeen, .ref t_keptKinds, .ref t_keptDeep, .ref t_keptLeans, .ref t_keptMoss, .ref t_keptSights, .long t_hash])), (t_kinds, .inl (cA, 6, .inl c_t_kinds)), (t_deep, .inl (cA, 6, .inl c_t_deep)), (t_leans, .inl (cA, 6, .inl c_t_leans)), (t_rain, .inl (cA, 8, .inl c_t_rain)), (t_mossThen, .inl (cA, 6, .inl o_c_t_mossThen))]) (va_A [(t, .inr (7, [.ref t_page, .int t_pageMany, .int t_end, .int t_clauses, .int t_rains, .int t_weekNext, .int t_breaths, .int t_wallsRead, .ref t_kinds, .ref t_deep, .ref t_leans, .ref t_moss, .ref t_rain, .ref t_mossThen, .ref t_when, .int t_needsDone, .int t_seenMany, .ref t_sights, .int t_seedNow, .int t_keptWall, .int t_keptWeek, .int t_keptBreaths, .int t_keptSeen, .ref t_keptKinds, .ref t_keptDeep, .ref t_keptLeans, .ref t_keptMoss, .ref t_keptSights, .long t_hash])), (t_kinds, .inl (cA, 6, .inl c_t_kinds)), (t_deep, .inl (cA, 6, .inl c_t_deep)), (t_leans, .inl (cA, 6, .inl c_t_leans)), (t_rain, .inl (cA, 8, .inl c_t_rain)), (t_mossThen, .inl (cA, 6, .inl c_t_mossThen))] sz)) 0 0 (va_A [(t, .inr (7, [.ref t_page, .int t_pageMany, .int t_end, .int t_clauses, .int t_rains, .int t_weekNext, .int t_breaths, .int t_wallsRead, .ref t_kinds, .ref t_deep, .ref t_leans, .ref t_moss, .ref t_rain, .ref t_mossThen, .ref t_when, .int t_needsDone, .int t_seenMany, .ref t_sights, .int t_seedNow, .int t_keptWall, .int t_keptWeek, .int t_keptBreaths, .int t_keptSeen, .ref t_keptKinds, .ref t_keptDeep, .ref t_keptLeans, .ref t_keptMoss, .ref t_keptSights, .long t_hash])), (t_kinds, .inl (cA, 6, .inl c_t_kinds)), (t_deep, .inl (cA, 6, .inl c_t_deep)), (t_leans, .inl (cA, 6, .inl c_t_leans)), (t_rain, .inl (cA, 8, .inl c_t_rain)), (t_mossThen, .inl (cA, 6, .inl c_t_mossThen))] sz) := by
  unfold mX7_goOn at hM
  refine Met.ofW (cc := cX7_goOn) (maxL := 3) (ret := none) (by decide) rfl ?_
  intro p e s m args below meth c s₁ B hml hv
  obtain ⟨rfl, hsz, hP, hE, hD0⟩ := hv
  have hx := B.exec
  have hb := B.bytes
  have hr := B.returns
  have hts := atoms_spec (ws := wsX7_goOn) B.pre
  have hown : s.vm.findClass RX7 = some m.cls := findClass_of_methodNamed B.named
  have hlocks := B.notSynchronized
  have hK := hE.1
  subst hsz
  have hD := hD0.self (sz := s.heap.size)
  generalize hAe : va_A [(t, .inr (7, [.ref t_page, .int t_pageMany, .int t_end, .int t_clauses, .int t_rains, .int t_weekNext, .int t_breaths, .int t_wallsRead, .ref t_kinds, .ref t_deep, .ref t_leans, .ref t_moss, .ref t_rain, .ref t_mossThen, .ref t_when, .int t_needsDone, .int t_seenMany, .ref t_sights, .int t_seedNow, .int t_keptWall, .int t_keptWeek, .int t_keptBreaths, .int t_keptSeen, .ref t_keptKinds, .ref t_keptDeep, .ref t_keptLeans, .ref t_keptMoss, .ref t_keptSights, .long t_hash])), (t_kinds, .inl (cA, 6, .inl c_t_kinds)), (t_deep, .inl (cA, 6, .inl c_t_deep)), (t_leans, .inl (cA, 6, .inl c_t_leans)), (t_rain, .inl (cA, 8, .inl c_t_rain)), (t_mossThen, .inl (cA, 6, .inl c_t_mossThen))] s.heap.size = A at hD ⊢
  have hA : ∀ q : Nat, s.heap.size ≤ q → A q := fun q h => by rw [← hAe]; exact Or.inr h
  have hS : va_S A s.heap s.heap [] := va_S.rf
  have hl := lv_entry ([.ref t, .int p1]) (n := 3) (Nat.le_of_ble_eq_true rfl)
  rw [lg_entry_eq]
  generalize (lg_sl ([.ref t, .int p1]) ++ List.replicate (3 - (lg_sl ([.ref t, .int p1])).length) Slot.unset).toArray = ls at hl ⊢
  have hl : lv_has ls 3 [(0, .ref t), (1, .int p1)] := hl
  refine mw_q (P := fun Q => W p l e (headSpec wsX7_goOn rmX7_goOn).room s m (([.ref t, .int p1] : List Value).toArray) below meth c s.heap [] 0 0 Q (F0 m 0 ls [])) (fun Q hQ => ?_)
  refine lv_iconst (v := 0) hx hb dX7_goOn_0 (by decide) ?_
  refine lv_istore_n (lv' := [(2, .int 0), (0, .ref t), (1, .int p1)]) hx hb dX7_goOn_1 rfl hl (by decide) rfl (fun ls hl => ?_)
  obtain ⟨k1_31, jk1_31⟩ : ∃ k : Int32 → (Nat → Int32) → Option ((Nat → Int32)), k = fun (x2_1 : Int32) (y1_t_mossThen : Nat → Int32) => some y1_t_mossThen := ⟨_, rfl⟩
  have Ek1_31 : ∀ (x2_1 : Int32) (y1_t_mossThen : Nat → Int32) (H : Heap) (locs : List Loc) (ls : Array Slot), va_P D vwCl [(t, .inr (7, [.ref t_page, .int t_pageMany, .int t_end, .int t_clauses, .int t_rains, .int t_weekNext, .int t_breaths, .int t_wallsRead, .ref t_kinds, .ref t_deep, .ref t_leans, .ref t_moss, .ref t_rain, .ref t_mossThen, .ref t_when, .int t_needsDone, .int t_seenMany, .ref t_sights, .int t_seedNow, .int t_keptWall, .int t_keptWeek, .int t_keptBreaths, .int t_keptSeen, .ref t_keptKinds, .ref t_keptDeep, .ref t_keptLeans, .ref t_keptMoss, .ref t_keptSights, .long t_hash])), (t_kinds, .inl (cA, 6, .inl c_t_kinds)), (t_deep, .inl (cA, 6, .inl c_t_deep)), (t_leans, .inl (cA, 6, .inl c_t_leans)), (t_rain, .inl (cA, 8, .inl c_t_rain)), (t_mossThen, .inl (cA, 6, .inl y1_t_mossThen))] H → va_D A [(t, .inr (7, [.ref t_page, .int t_pageMany, .int t_end, .int t_clauses, .int t_rains, .int t_weekNext, .int t_breaths, .int t_wallsRead, .ref t_kinds, .ref t_deep, .ref t_leans, .ref t_moss, .ref t_rain, .ref t_mossThen, .ref t_when, .int t_needsDone, .int t_seenMany, .ref t_sights, .int t_seedNow, .int t_keptWall, .int t_keptWeek, .int t_keptBreaths, .int t_keptSeen, .ref t_keptKinds, .ref t_keptDeep, .ref t_keptLeans, .ref t_keptMoss, .ref t_keptSights, .long t_hash])), (t_kinds, .inl (cA, 6, .inl c_t_kinds)), (t_deep, .inl (cA, 6, .inl c_t_deep)), (t_leans, .inl (cA, 6, .inl c_t_leans)), (t_rain, .inl (cA, 8, .inl c_t_rain)), (t_mossThen, .inl (cA, 6, .inl y1_t_mossThen))] → va_S A s.heap H locs → lv_has ls 3 [(2, .int x2_1), (0, .ref t), (1, .int p1)] → k1_31 x2_1 y1_t_mossThen = some o_c_t_mossThen → W p l e (headSpec wsX7_goOn rmX7_goOn).room s m (([.ref t, .int p1] : List Value).toArray) below meth c H locs 0 0 Q (F0 m 31 ls []) := by
      intro x2_1 y1_t_mossThen H locs ls hP hD hS hl hM
      rw [jk1_31] at hM
      obtain rfl := mw_o1 hM
      subst hQ
      exact W.vret hx hb hr (fun t ht hW => ⟨⟨(), rfl, trivial, by rw [ht]; exact hP, hD⟩, hS.F ht⟩) hS.2.2 dX7_goOn_31
  have L1 : ∀ (n1 : Nat) (x2_1 : Int32) (y1_t_mossThen : Nat → Int32) (H : Heap) (locs : List Loc) (ls : Array Slot), va_P D vwCl [(t, .inr (7, [.ref t_page, .int t_pageMany, .int t_end, .int t_clauses, .int t_rains, .int t_weekNext, .int t_breaths, .int t_wallsRead, .ref t_kinds, .ref t_deep, .ref t_leans, .ref t_moss, .ref t_rain, .ref t_mossThen, .ref t_when, .int t_needsDone, .int t_seenMany, .ref t_sights, .int t_seedNow, .int t_keptWall, .int t_keptWeek, .int t_keptBreaths, .int t_keptSeen, .ref t_keptKinds, .ref t_keptDeep, .ref t_keptLeans, .ref t_keptMoss, .ref t_keptSights, .long t_hash])), (t_kinds, .inl (cA, 6, .inl c_t_kinds)), (t_deep, .inl (cA, 6, .inl c_t_deep)), (t_leans, .inl (cA, 6, .inl c_t_leans)), (t_rain, .inl (cA, 8, .inl c_t_rain)), (t_mossThen, .inl (cA, 6, .inl y1_t_mossThen))] H → va_D A [(t, .inr (7, [.ref t_page, .int t_pageMany, .int t_end, .int t_clauses, .int t_rains, .int t_weekNext, .int t_breaths, .int t_wallsRead, .ref t_kinds, .ref t_deep, .ref t_leans, .ref t_moss, .ref t_rain, .ref t_mossThen, .ref t_when, .int t_needsDone, .int t_seenMany, .ref t_sights, .int t_seedNow, .int t_keptWall, .int t_keptWeek, .int t_keptBreaths, .int t_keptSeen, .ref t_keptKinds, .ref t_keptDeep, .ref t_keptLeans, .ref t_keptMoss, .ref t_keptSights, .long t_hash])), (t_kinds, .inl (cA, 6, .inl c_t_kinds)), (t_deep, .inl (cA, 6, .inl c_t_deep)), (t_leans, .inl (cA, 6, .inl c_t_leans)), (t_rain, .inl (cA, 8, .inl c_t_rain)), (t_mossThen, .inl (cA, 6, .inl y1_t_mossThen))] → va_S A s.heap H locs → lv_has ls 3 [(2, .int x2_1), (0, .ref t), (1, .int p1)] → mX7_goOn_L1 t_clauses t_rains t_weekNext c_t_kinds c_t_deep c_t_leans c_t_rain p1 k1_31 n1 x2_1 y1_t_mossThen = some o_c_t_mossThen → W p l e (headSpec wsX7_goOn rmX7_goOn).room s m (([.ref t, .int p1] : List Value).toArray) below meth c H locs 0 0 Q (F0 m 2 ls []) := by
      intro n1
      induction n1 with
      | zero =>
        intro x2_1 y1_t_mossThen H locs ls hP hD hS hl hM
        rw [mX7_goOn_L1] at hM
        exact mw_none hM
      | succ n1 ih1 =>
        intro x2_1 y1_t_mossThen H locs ls hP hD hS hl hM
        rw [mX7_goOn_L1] at hM
        refine lv_iload_n hx hb dX7_goOn_2 rfl (lv_at hl 0 rfl) ?_
        refine lv_iload_n hx hb dX7_goOn_3 rfl (lv_at hl 2 rfl) ?_
        refine lv_icmp_ge (tgt := 31) hx hb dX7_goOn_4 (by decide) (fun q1 => ?_) (fun q1 => ?_)
        · replace hM := mw_t hM q1
          exact Ek1_31 x2_1 y1_t_mossThen _ _ _ hP hD hS (lv_sub hl [0, 1, 2] rfl) hM
        · replace hM := mw_f hM q1
          refine lv_aload_n hx hb dX7_goOn_7 rfl (lv_at hl 1 rfl) ?_
          refine lv_aload_n hx hb dX7_goOn_8 rfl (lv_at hl 1 rfl) ?_
          refine va_get (D := D) (ci := 7) (v := .ref t_mossThen) (C := RX7) (T := TX7) (N := 29) hx hb hts (fun _ h => List.mem_cons_of_mem _ (List.mem_append_right _ (h))) hown hK hP 0 rfl rfl 13 (by decide) (hts (.fieldLink RX7 28 "MossWallModel" "mossThen" "[I") (List.mem_cons_of_mem _ (List.mem_append_left _ (List.mem_append_left _ (List.mem_of_getElem? (i := 0) rfl))))) (fun _ h9 => h9) rfl dX7_goOn_9 ?_
          refine lv_aload_n hx hb dX7_goOn_12 rfl (lv_at hl 1 rfl) ?_
          refine lv_aload_n hx hb dX7_goOn_13 rfl (lv_at hl 1 rfl) ?_
          refine va_get (D := D) (ci := 7) (v := .int t_weekNext) (C := RX7) (T := TX7) (N := 29) hx hb hts (fun _ h => List.mem_cons_of_mem _ (List.mem_append_right _ (h))) hown hK hP 0 rfl rfl 5 (by decide) (hts (.fieldLink RX7 94 "MossWallModel" "weekNext" "I") (List.mem_cons_of_mem _ (List.mem_append_left _ (List.mem_append_left _ (List.mem_of_getElem? (i := 1) rfl))))) (fun _ h9 => h9) rfl dX7_goOn_14 ?_
          refine lv_iload_n hx hb dX7_goOn_17 rfl (lv_at hl 0 rfl) ?_
          refine lv_iadd hx hb dX7_goOn_18 ?_
          obtain ⟨r2, h2, hM⟩ := mw_d1 hM
          have hPc := hP.sub (ws' := [(t, .inr (7, [.ref t_page, .int t_pageMany, .int t_end, .int t_clauses, .int t_rains, .int t_weekNext, .int t_breaths, .int t_wallsRead, .ref t_kinds, .ref t_deep, .ref t_leans, .ref t_moss, .ref t_rain, .ref t_mossThen, .ref t_when, .int t_needsDone, .int t_seenMany, .ref t_sights, .int t_seedNow, .int t_keptWall, .int t_keptWeek, .int t_keptBreaths, .int t_keptSeen, .ref t_keptKinds, .ref t_keptDeep, .ref t_keptLeans, .ref t_keptMoss, .ref t_keptSights, .long t_hash])), (t_rain, .inl (cA, 8, .inl c_t_rain))]) [0, 4] rfl
          refine vp_callSi (va_Run.run (va_runV (As := [.int (t_weekNext + x2_1)]) (rest := [.ref t_mossThen, .ref t]) ⟨hx, hb, hml, hown, hts⟩ (kX7_rainOf l D cA t t_page t_kinds t_deep t_leans t_moss t_rain t_mossThen t_when t_sights t_keptKinds t_keptDeep t_keptLeans t_keptMoss t_keptSights t_pageMany t_end t_clauses t_rains t_weekNext t_breaths t_wallsRead t_needsDone t_seenMany t_seedNow t_keptWall t_keptWeek t_keptBreaths t_keptSeen t_hash c_t_rain (t_weekNext + x2_1) r2 h2) (cwV 1 hts gX7_goOn_X7_rainOf rfl rfl rfl (by decide +kernel) ⟨Nat.le_of_ble_eq_true rfl, Nat.le_of_ble_eq_true rfl⟩) ⟨mw_fbR, va_recv hK hP (ci := 7) (q0 := 0) rfl rfl, mw_puR hPc hE⟩ rfl rfl hl.1 rfl (lv_room (Nat.le_of_ble_eq_true rfl)) dX7_goOn_19 ⟨Nat.zero_le _, Nat.zero_le _⟩)) (fun v_ e_ => ?_)
          subst v_
          obtain ⟨u3_t_mossThen, h3, hM⟩ := mw_d1 hM
          have hPc := hP.sub (ws' := [(t, .inr (7, [.ref t_page, .int t_pageMany, .int t_end, .int t_clauses, .int t_rains, .int t_weekNext, .int t_breaths, .int t_wallsRead, .ref t_kinds, .ref t_deep, .ref t_leans, .ref t_moss, .ref t_rain, .ref t_mossThen, .ref t_when, .int t_needsDone, .int t_seenMany, .ref t_sights, .int t_seedNow, .int t_keptWall, .int t_keptWeek, .int t_keptBreaths, .int t_keptSeen, .ref t_keptKinds, .ref t_keptDeep, .ref t_keptLeans, .ref t_keptMoss, .ref t_keptSights, .long t_hash])), (t_kinds, .inl (cA, 6, .inl c_t_kinds)), (t_deep, .inl (cA, 6, .inl c_t_deep)), (t_leans, .inl (cA, 6, .inl c_t_leans)), (t_mossThen, .inl (cA, 6, .inl y1_t_mossThen))]) [0, 1, 2, 3, 5] rfl
          have hDc := hD.sub (ws' := [(t, .inr (7, [.ref t_page, .int t_pageMany, .int t_end, .int t_clauses, .int t_rains, .int t_weekNext, .int t_breaths, .int t_wallsRead, .ref t_kinds, .ref t_deep, .ref t_leans, .ref t_moss, .ref t_rain, .ref t_mossThen, .ref t_when, .int t_needsDone, .int t_seenMany, .ref t_sights, .int t_seedNow, .int t_keptWall, .int t_keptWeek, .int t_keptBreaths, .int t_keptSeen, .ref t_keptKinds, .ref t_keptDeep, .ref t_keptLeans, .ref t_keptMoss, .ref t_keptSights, .long t_hash])), (t_kinds, .inl (cA, 6, .inl c_t_kinds)), (t_deep, .inl (cA, 6, .inl c_t_deep)), (t_leans, .inl (cA, 6, .inl c_t_leans)), (t_mossThen, .inl (cA, 6, .inl y1_t_mossThen))]) [0, 1, 2, 3, 5] (by decide) rfl
          have hFc := va_free (wc := [(t, .inr (7, [.ref t_page, .int t_pageMany, .int t_end, .int t_clauses, .int t_rains, .int t_weekNext, .int t_breaths, .int t_wallsRead, .ref t_kinds, .ref t_deep, .ref t_leans, .ref t_moss, .ref t_rain, .ref t_mossThen, .ref t_when, .int t_needsDone, .int t_seenMany, .ref t_sights, .int t_seedNow, .int t_keptWall, .int t_keptWeek, .int t_keptBreaths, .int t_keptSeen, .ref t_keptKinds, .ref t_keptDeep, .ref t_keptLeans, .ref t_keptMoss, .ref t_keptSights, .long t_hash])), (t_kinds, .inl (cA, 6, .inl c_t_kinds)), (t_deep, .inl (cA, 6, .inl c_t_deep)), (t_leans, .inl (cA, 6, .inl c_t_leans)), (t_mossThen, .inl (cA, 6, .inl y1_t_mossThen))]) hD hS hA [0, 1, 2, 3, 5] rfl
          refine va_callv (va_runV (As := [.ref t_mossThen, .int r2]) (rest := []) ⟨hx, hb, hml, hown, hts⟩ (kX7_grow l D cA t t_mossThen t_page t_kinds t_deep t_leans t_moss t_rain t_mossThen t_when t_sights t_keptKinds t_keptDeep t_keptLeans t_keptMoss t_keptSights _ t_pageMany t_end t_clauses t_rains t_weekNext t_breaths t_wallsRead t_needsDone t_seenMany t_seedNow t_keptWall t_keptWeek t_keptBreaths t_keptSeen t_hash c_t_kinds c_t_deep c_t_leans 6 y1_t_mossThen r2 u3_t_mossThen h3) (cwV 2 hts gX7_goOn_X7_grow rfl rfl rfl (by decide +kernel) ⟨Nat.le_of_ble_eq_true rfl, Nat.le_of_ble_eq_true rfl⟩) ⟨mw_fbW, va_recv hK hP (ci := 7) (q0 := 0) rfl rfl, mw_puW hPc hE hDc⟩ rfl rfl hl.1 rfl (lv_room (Nat.le_of_ble_eq_true rfl)) dX7_goOn_22 ⟨Nat.zero_le _, Nat.zero_le _⟩) hS (fun q _ h => hFc q h) hFc (fun _ t_ H locs ht_ _ _ hB_ _ hk_ hS => ?_)
          obtain ⟨hP1, hD1⟩ := hB_
          rw [ht_] at hP1
          obtain ⟨hP, hD⟩ := va_join (wr := [(t_rain, .inl (cA, 8, .inl c_t_rain))]) (w1 := [(t, .inr (7, [.ref t_page, .int t_pageMany, .int t_end, .int t_clauses, .int t_rains, .int t_weekNext, .int t_breaths, .int t_wallsRead, .ref t_kinds, .ref t_deep, .ref t_leans, .ref t_moss, .ref t_rain, .ref t_mossThen, .ref t_when, .int t_needsDone, .int t_seenMany, .ref t_sights, .int t_seedNow, .int t_keptWall, .int t_keptWeek, .int t_keptBreaths, .int t_keptSeen, .ref t_keptKinds, .ref t_keptDeep, .ref t_keptLeans, .ref t_keptMoss, .ref t_keptSights, .long t_hash])), (t_kinds, .inl (cA, 6, .inl c_t_kinds)), (t_deep, .inl (cA, 6, .inl c_t_deep)), (t_leans, .inl (cA, 6, .inl c_t_leans)), (t_mossThen, .inl (cA, 6, .inl u3_t_mossThen))]) hP hD [0, 1, 2, 3, 5] [4] rfl rfl (by decide) (by decide) hk_ hFc hP1 hD1
          have hP : va_P D vwCl [(t_rain, .inl (cA, 8, .inl c_t_rain)), (t, .inr (7, [.ref t_page, .int t_pageMany, .int t_end, .int t_clauses, .int t_rains, .int t_weekNext, .int t_breaths, .int t_wallsRead, .ref t_kinds, .ref t_deep, .ref t_leans, .ref t_moss, .ref t_rain, .ref t_mossThen, .ref t_when, .int t_needsDone, .int t_seenMany, .ref t_sights, .int t_seedNow, .int t_keptWall, .int t_keptWeek, .int t_keptBreaths, .int t_keptSeen, .ref t_keptKinds, .ref t_keptDeep, .ref t_keptLeans, .ref t_keptMoss, .ref t_keptSights, .long t_hash])), (t_kinds, .inl (cA, 6, .inl c_t_kinds)), (t_deep, .inl (cA, 6, .inl c_t_deep)), (t_leans, .inl (cA, 6, .inl c_t_leans)), (t_mossThen, .inl (cA, 6, .inl u3_t_mossThen))] H := hP
          have hD : va_D A [(t_rain, .inl (cA, 8, .inl c_t_rain)), (t, .inr (7, [.ref t_page, .int t_pageMany, .int t_end, .int t_clauses, .int t_rains, .int t_weekNext, .int t_breaths, .int t_wallsRead, .ref t_kinds, .ref t_deep, .ref t_leans, .ref t_moss, .ref t_rain, .ref t_mossThen, .ref t_when, .int t_needsDone, .int t_seenMany, .ref t_sights, .int t_seedNow, .int t_keptWall, .int t_keptWeek, .int t_keptBreaths, .int t_keptSeen, .ref t_keptKinds, .ref t_keptDeep, .ref t_keptLeans, .ref t_keptMoss, .ref t_keptSights, .long t_hash])), (t_kinds, .inl (cA, 6, .inl c_t_kinds)), (t_deep, .inl (cA, 6, .inl c_t_deep)), (t_leans, .inl (cA, 6, .inl c_t_leans)), (t_mossThen, .inl (cA, 6, .inl u3_t_mossThen))] := hD
          refine lv_iinc (v := x2_1 + 1) (lv' := [(2, .int (x2_1 + 1)), (0, .ref t), (1, .int p1)]) hx hb dX7_goOn_25 hl (k := 0) rfl (by first | rfl | decide) (by decide) rfl (fun ls hl => ?_)
          refine lv_goto (tgt := 2) hx hb dX7_goOn_28 (by decide) ?_
          have hP := hP.sub (ws' := [(t, .inr (7, [.ref t_page, .int t_pageMany, .int t_end, .int t_clauses, .int t_rains, .int t_weekNext, .int t_breaths, .int t_wallsRead, .ref t_kinds, .ref t_deep, .ref t_leans, .ref t_moss, .ref t_rain, .ref t_mossThen, .ref t_when, .int t_needsDone, .int t_seenMany, .ref t_sights, .int t_seedNow, .int t_keptWall, .int t_keptWeek, .int t_keptBreaths, .int t_keptSeen, .ref t_keptKinds, .ref t_keptDeep, .ref t_keptLeans, .ref t_keptMoss, .ref t_keptSights, .long t_hash])), (t_kinds, .inl (cA, 6, .inl c_t_kinds)), (t_deep, .inl (cA, 6, .inl c_t_deep)), (t_leans, .inl (cA, 6, .inl c_t_leans)), (t_rain, .inl (cA, 8, .inl c_t_rain)), (t_mossThen, .inl (cA, 6, .inl u3_t_mossThen))]) [1, 2, 3, 4, 0, 5] rfl
          have hD := hD.sub (ws' := [(t, .inr (7, [.ref t_page, .int t_pageMany, .int t_end, .int t_clauses, .int t_rains, .int t_weekNext, .int t_breaths, .int t_wallsRead, .ref t_kinds, .ref t_deep, .ref t_leans, .ref t_moss, .ref t_rain, .ref t_mossThen, .ref t_when, .int t_needsDone, .int t_seenMany, .ref t_sights, .int t_seedNow, .int t_keptWall, .int t_keptWeek, .int t_keptBreaths, .int t_keptSeen, .ref t_keptKinds, .ref t_keptDeep, .ref t_keptLeans, .ref t_keptMoss, .ref t_keptSights, .long t_hash])), (t_kinds, .inl (cA, 6, .inl c_t_kinds)), (t_deep, .inl (cA, 6, .inl c_t_deep)), (t_leans, .inl (cA, 6, .inl c_t_leans)), (t_rain, .inl (cA, 8, .inl c_t_rain)), (t_mossThen, .inl (cA, 6, .inl u3_t_mossThen))]) [1, 2, 3, 4, 0, 5] (by decide) rfl
          exact ih1 (x2_1 + 1) u3_t_mossThen _ _ _ hP hD hS (lv_sub hl [0, 1, 2] rfl) hM
  exact L1 300 0 c_t_mossThen _ _ _ hP hD hS hl (by rw [jk1_31]; exact hM)
def mX7_begin (t_clauses : Int32) (t_rains : Int32) (t_weekNext : Int32) (c_t_kinds : Nat → Int32) (c_t_deep : Nat → Int32) (c_t_leans : Nat → Int32) (c_t_moss : Nat → Int32) (c_t_rain : Nat → Int32) (c_t_mossThen : Nat → Int32) (p1 : Int32) : Option ((Nat → Int32)) :=
  (mX7_copy 6 c_t_moss 6 c_t_mossThen).bind fun u1_t_mossThen => (mX7_goOn t_clauses t_rains t_weekNext c_t_kinds c_t_deep c_t_leans c_t_rain u1_t_mossThen p1).bind fun u2_t_mossThen => some u2_t_mossThen
abbrev rmX7_begin : Room := ({ frames := 4, cells := 0, slots := 0, locals := 93 } : Room)
set_option maxHeartbeats 4000000 in
set_option maxRecDepth 100000 in
theorem kX7_begin (l : Launch) (D : va_G) (cA : ClassId) (t t_page t_kinds t_deep t_leans t_moss t_rain t_mossThen t_when t_sights t_keptKinds t_keptDeep t_keptLeans t_keptMoss t_keptSights : Nat) (sz : Nat) (t_pageMany : Int32) (t_end : Int32) (t_clauses : Int32) (t_rains : Int32) (t_weekNext : Int32) (t_breaths : Int32) (t_wallsRead : Int32) (t_needsDone : Int32) (t_seenMany : Int32) (t_seedNow : Int32) (t_keptWall : Int32) (t_keptWeek : Int32) (t_keptBreaths : Int32) (t_keptSeen : Int32) (t_hash : Int64) (c_t_kinds : Nat → Int32) (c_t_deep : Nat → Int32) (c_t_leans : Nat → Int32) (c_t_moss : Nat → Int32) (c_t_rain : Nat → Int32) (c_t_mossThen : Nat → Int32) (p1 : Int32) (o_c_t_mossThen : Nat → Int32) (hM : mX7_begin t_clauses t_rains t_weekNext c_t_kinds c_t_deep c_t_leans c_t_moss c_t_rain c_t_mossThen p1 = some o_c_t_mossThen) : Met l yX7_begin wsX7_begin rmX7_begin (va_Pc [.ref t, .int p1] (fun U => U.heap.size = sz ∧ va_P D vwCl [(t, .inr (7, [.ref t_page, .int t_pageMany, .int t_end, .int t_clauses, .int t_rains, .int t_weekNext, .int t_breaths, .int t_wallsRead, .ref t_kinds, .ref t_deep, .ref t_leans, .ref t_moss, .ref t_rain, .ref t_mossThen, .ref t_when, .int t_needsDone, .int t_seenMany, .ref t_sights, .int t_seedNow, .int t_keptWall, .int t_keptWeek, .int t_keptBreaths, .int t_keptSeen, .ref t_keptKinds, .ref t_keptDeep, .ref t_keptLeans, .ref t_keptMoss, .ref t_keptSights, .long t_hash])), (t_kinds, .inl (cA, 6, .inl c_t_kinds)), (t_deep, .inl (cA, 6, .inl c_t_deep)), (t_leans, .inl (cA, 6, .inl c_t_leans)), (t_moss, .inl (cA, 6, .inl c_t_moss)), (t_rain, .inl (cA, 8, .inl c_t_rain)), (t_mossThen, .inl (cA, 6, .inl c_t_mossThen))] U.heap ∧ mw_ev D cA U ∧ va_D (fun _ => True) [(t, .inr (7, [.ref t_page, .int t_pageMany, .int t_end, .int t_clauses, .int t_rains, .int t_weekNext, .int t_breaths, .int t_wallsRead, .ref t_kinds, .ref t_deep, .ref t_leans, .ref t_moss, .ref t_rain, .ref t_mossThen, .ref t_when, .int t_needsDone, .int t_seenMany, .ref t_sights, .int t_seedNow, .int t_keptWall, .int t_keptWeek, .int t_keptBreaths, .int t_keptSeen, .ref t_keptKinds, .ref t_keptDeep, .ref t_keptLeans, .ref t_keptMoss, .ref t_keptSights, .long t_hash])), (t_kinds, .inl (cA, 6, .inl c_t_kinds)), (t_deep, .inl (cA, 6, .inl c_t_deep)), (t_leans, .inl (cA, 6, .inl c_t_leans)), (t_moss, .inl (cA, 6, .inl c_t_moss)), (t_rain, .inl (cA, 8, .inl c_t_rain)), (t_mossThen, .inl (cA, 6, .inl c_t_mossThen))])) (va_Qv (fun (_ : Unit) => True) (fun (_ : Unit) w_ => va_P D vwCl [(t, .inr (7, [.ref t_page, .int t_pageMany, .int t_end, .int t_clauses, .int t_rains, .int t_weekNext, .int t_breaths, .int t_wallsRead, .ref t_kinds, .ref t_deep, .ref t_leans, .ref t_moss, .ref t_rain, .ref t_mossThen, .ref t_when, .int t_needsDone, .int t_seenMany, .ref t_sights, .int t_seedNow, .int t_keptWall, .int t_keptWeek, .int t_keptBreaths, .int t_keptSeen, .ref t_keptKinds, .ref t_keptDeep, .ref t_keptLeans, .ref t_keptMoss, .ref t_keptSights, .long t_hash])), (t_kinds, .inl (cA, 6, .inl c_t_kinds)), (t_deep, .inl (cA, 6, .inl c_t_deep)), (t_leans, .inl (cA, 6, .inl c_t_leans)), (t_moss, .inl (cA, 6, .inl c_t_moss)), (t_rain, .inl (cA, 8, .inl c_t_rain)), (t_mossThen, .inl (cA, 6, .inl o_c_t_mossThen))] w_.heap ∧ va_D (va_A [(t, .inr (7, [.ref t_page, .int t_pageMany, .int t_end, .int t_clauses, .int t_rains, .int t_weekNext, .int t_breaths, .int t_wallsRead, .ref t_kinds, .ref t_deep, .ref t_leans, .ref t_moss, .ref t_rain, .ref t_mossThen, .ref t_when, .int t_needsDone, .int t_seenMany, .ref t_sights, .int t_seedNow, .int t_keptWall, .int t_keptWeek, .int t_keptBreaths, .int t_keptSeen, .ref t_keptKinds, .ref t_keptDeep, .ref t_keptLeans, .ref t_keptMoss, .ref t_keptSights, .long t_hash])), (t_kinds, .inl (cA, 6, .inl c_t_kinds)), (t_deep, .inl (cA, 6, .inl c_t_deep)), (t_leans, .inl (cA, 6, .inl c_t_leans)), (t_moss, .inl (cA, 6, .inl c_t_moss)), (t_rain, .inl (cA, 8, .inl c_t_rain)), (t_mossThen, .inl (cA, 6, .inl c_t_mossThen))] sz) [(t, .inr (7, [.ref t_page, .int t_pageMany, .int t_end, .int t_clauses, .int t_rains, .int t_weekNext, .int t_breaths, .int t_wallsRead, .ref t_kinds, .ref t_deep, .ref t_leans, .ref t_moss, .ref t_rain, .ref t_mossThen, .ref t_when, .int t_needsDone, .int t_seenMany, .ref t_sights, .int t_seedNow, .int t_keptWall, .int t_keptWeek, .int t_keptBreaths, .int t_keptSeen, .ref t_keptKinds, .ref t_keptDeep, .ref t_keptLeans, .ref t_keptMoss, .ref t_keptSights, .long t_hash])), (t_kinds, .inl (cA, 6, .inl c_t_kinds)), (t_deep, .inl (cA, 6, .inl c_t_deep)), (t_leans, .inl (cA, 6, .inl c_t_leans)), (t_moss, .inl (cA, 6, .inl c_t_moss)), (t_rain, .inl (cA, 8, .inl c_t_rain)), (t_mossThen, .inl (cA, 6, .inl o_c_t_mossThen))]) (va_A [(t, .inr (7, [.ref t_page, .int t_pageMany, .int t_end, .int t_clauses, .int t_rains, .int t_weekNext, .int t_breaths, .int t_wallsRead, .ref t_kinds, .ref t_deep, .ref t_leans, .ref t_moss, .ref t_rain, .ref t_mossThen, .ref t_when, .int t_needsDone, .int t_seenMany, .ref t_sights, .int t_seedNow, .int t_keptWall, .int t_keptWeek, .int t_keptBreaths, .int t_keptSeen, .ref t_keptKinds, .ref t_keptDeep, .ref t_keptLeans, .ref t_keptMoss, .ref t_keptSights, .long t_hash])), (t_kinds, .inl (cA, 6, .inl c_t_kinds)), (t_deep, .inl (cA, 6, .inl c_t_deep)), (t_leans, .inl (cA, 6, .inl c_t_leans)), (t_moss, .inl (cA, 6, .inl c_t_moss)), (t_rain, .inl (cA, 8, .inl c_t_rain)), (t_mossThen, .inl (cA, 6, .inl c_t_mossThen))] sz)) 0 0 (va_A [(t, .inr (7, [.ref t_page, .int t_pageMany, .int t_end, .int t_clauses, .int t_rains, .int t_weekNext, .int t_breaths, .int t_wallsRead, .ref t_kinds, .ref t_deep, .ref t_leans, .ref t_moss, .ref t_rain, .ref t_mossThen, .ref t_when, .int t_needsDone, .int t_seenMany, .ref t_sights, .int t_seedNow, .int t_keptWall, .int t_keptWeek, .int t_keptBreaths, .int t_keptSeen, .ref t_keptKinds, .ref t_keptDeep, .ref t_keptLeans, .ref t_keptMoss, .ref t_keptSights, .long t_hash])), (t_kinds, .inl (cA, 6, .inl c_t_kinds)), (t_deep, .inl (cA, 6, .inl c_t_deep)), (t_leans, .inl (cA, 6, .inl c_t_leans)), (t_moss, .inl (cA, 6, .inl c_t_moss)), (t_rain, .inl (cA, 8, .inl c_t_rain)), (t_mossThen, .inl (cA, 6, .inl c_t_mossThen))] sz) := by
  unfold mX7_begin at hM
  refine Met.ofW (cc := cX7_begin) (maxL := 2) (ret := none) (by decide) rfl ?_
  intro p e s m args below meth c s₁ B hml hv
  obtain ⟨rfl, hsz, hP, hE, hD0⟩ := hv
  have hx := B.exec
  have hb := B.bytes
  have hr := B.returns
  have hts := atoms_spec (ws := wsX7_begin) B.pre
  have hown : s.vm.findClass RX7 = some m.cls := findClass_of_methodNamed B.named
  have hlocks := B.notSynchronized
  have hK := hE.1
  subst hsz
  have hD := hD0.self (sz := s.heap.size)
  generalize hAe : va_A [(t, .inr (7, [.ref t_page, .int t_pageMany, .int t_end, .int t_clauses, .int t_rains, .int t_weekNext, .int t_breaths, .int t_wallsRead, .ref t_kinds, .ref t_deep, .ref t_leans, .ref t_moss, .ref t_rain, .ref t_mossThen, .ref t_when, .int t_needsDone, .int t_seenMany, .ref t_sights, .int t_seedNow, .int t_keptWall, .int t_keptWeek, .int t_keptBreaths, .int t_keptSeen, .ref t_keptKinds, .ref t_keptDeep, .ref t_keptLeans, .ref t_keptMoss, .ref t_keptSights, .long t_hash])), (t_kinds, .inl (cA, 6, .inl c_t_kinds)), (t_deep, .inl (cA, 6, .inl c_t_deep)), (t_leans, .inl (cA, 6, .inl c_t_leans)), (t_moss, .inl (cA, 6, .inl c_t_moss)), (t_rain, .inl (cA, 8, .inl c_t_rain)), (t_mossThen, .inl (cA, 6, .inl c_t_mossThen))] s.heap.size = A at hD ⊢
  have hA : ∀ q : Nat, s.heap.size ≤ q → A q := fun q h => by rw [← hAe]; exact Or.inr h
  have hS : va_S A s.heap s.heap [] := va_S.rf
  have hl := lv_entry ([.ref t, .int p1]) (n := 2) (Nat.le_of_ble_eq_true rfl)
  rw [lg_entry_eq]
  generalize (lg_sl ([.ref t, .int p1]) ++ List.replicate (2 - (lg_sl ([.ref t, .int p1])).length) Slot.unset).toArray = ls at hl ⊢
  have hl : lv_has ls 2 [(0, .ref t), (1, .int p1)] := hl
  refine mw_q (P := fun Q => W p l e (headSpec wsX7_begin rmX7_begin).room s m (([.ref t, .int p1] : List Value).toArray) below meth c s.heap [] 0 0 Q (F0 m 0 ls [])) (fun Q hQ => ?_)
  refine lv_aload_n hx hb dX7_begin_0 rfl (lv_at hl 0 rfl) ?_
  refine va_get (D := D) (ci := 7) (v := .ref t_moss) (C := RX7) (T := TX7) (N := 29) hx hb hts (fun _ h => List.mem_cons_of_mem _ (List.mem_append_right _ (h))) hown hK hP 0 rfl rfl 11 (by decide) (hts (.fieldLink RX7 22 "MossWallModel" "moss" "[I") (List.mem_cons_of_mem _ (List.mem_append_left _ (List.mem_append_left _ (List.mem_of_getElem? (i := 0) rfl))))) (fun _ h9 => h9) rfl dX7_begin_1 ?_
  refine lv_aload_n hx hb dX7_begin_4 rfl (lv_at hl 0 rfl) ?_
  refine va_get (D := D) (ci := 7) (v := .ref t_mossThen) (C := RX7) (T := TX7) (N := 29) hx hb hts (fun _ h => List.mem_cons_of_mem _ (List.mem_append_right _ (h))) hown hK hP 0 rfl rfl 13 (by decide) (hts (.fieldLink RX7 28 "MossWallModel" "mossThen" "[I") (List.mem_cons_of_mem _ (List.mem_append_left _ (List.mem_append_left _ (List.mem_of_getElem? (i := 1) rfl))))) (fun _ h9 => h9) rfl dX7_begin_5 ?_
  obtain ⟨u1_t_mossThen, h1, hM⟩ := mw_d1 hM
  have hPc := hP.sub (ws' := [(t_moss, .inl (cA, 6, .inl c_t_moss)), (t_mossThen, .inl (cA, 6, .inl c_t_mossThen))]) [4, 6] rfl
  have hDc := hD.sub (ws' := [(t_moss, .inl (cA, 6, .inl c_t_moss)), (t_mossThen, .inl (cA, 6, .inl c_t_mossThen))]) [4, 6] (by decide) rfl
  have hFc := va_free (wc := [(t_moss, .inl (cA, 6, .inl c_t_moss)), (t_mossThen, .inl (cA, 6, .inl c_t_mossThen))]) hD hS hA [4, 6] rfl
  refine va_callv (va_runS (As := [.ref t_moss, .ref t_mossThen]) (rest := []) ⟨hx, hb, hml, hown, hts⟩ (kX7_copy l D cA t_moss t_mossThen _ 6 c_t_moss 6 c_t_mossThen u1_t_mossThen h1) (va_cwS 2 hts gX7_begin_X7_copy rfl rfl rfl (by decide +kernel) ⟨Nat.le_of_ble_eq_true rfl, Nat.le_of_ble_eq_true rfl⟩) ⟨mw_fbW, mw_puW hPc hE hDc⟩ rfl rfl hl.1 rfl (lv_room (Nat.le_of_ble_eq_true rfl)) dX7_begin_8 ⟨Nat.zero_le _, Nat.zero_le _⟩) hS (fun q _ h => hFc q h) hFc (fun _ t_ H locs ht_ _ _ hB_ _ hk_ hS => ?_)
  obtain ⟨hP1, hD1⟩ := hB_
  rw [ht_] at hP1
  obtain ⟨hP, hD⟩ := va_join (wr := [(t, .inr (7, [.ref t_page, .int t_pageMany, .int t_end, .int t_clauses, .int t_rains, .int t_weekNext, .int t_breaths, .int t_wallsRead, .ref t_kinds, .ref t_deep, .ref t_leans, .ref t_moss, .ref t_rain, .ref t_mossThen, .ref t_when, .int t_needsDone, .int t_seenMany, .ref t_sights, .int t_seedNow, .int t_keptWall, .int t_keptWeek, .int t_keptBreaths, .int t_keptSeen, .ref t_keptKinds, .ref t_keptDeep, .ref t_keptLeans, .ref t_keptMoss, .ref t_keptSights, .long t_hash])), (t_kinds, .inl (cA, 6, .inl c_t_kinds)), (t_deep, .inl (cA, 6, .inl c_t_deep)), (t_leans, .inl (cA, 6, .inl c_t_leans)), (t_rain, .inl (cA, 8, .inl c_t_rain))]) (w1 := [(t_moss, .inl (cA, 6, .inl c_t_moss)), (t_mossThen, .inl (cA, 6, .inl u1_t_mossThen))]) hP hD [4, 6] [0, 1, 2, 3, 5] rfl rfl (by decide) (by decide) hk_ hFc hP1 hD1
  have hP : va_P D vwCl [(t, .inr (7, [.ref t_page, .int t_pageMany, .int t_end, .int t_clauses, .int t_rains, .int t_weekNext, .int t_breaths, .int t_wallsRead, .ref t_kinds, .ref t_deep, .ref t_leans, .ref t_moss, .ref t_rain, .ref t_mossThen, .ref t_when, .int t_needsDone, .int t_seenMany, .ref t_sights, .int t_seedNow, .int t_keptWall, .int t_keptWeek, .int t_keptBreaths, .int t_keptSeen, .ref t_keptKinds, .ref t_keptDeep, .ref t_keptLeans, .ref t_keptMoss, .ref t_keptSights, .long t_hash])), (t_kinds, .inl (cA, 6, .inl c_t_kinds)), (t_deep, .inl (cA, 6, .inl c_t_deep)), (t_leans, .inl (cA, 6, .inl c_t_leans)), (t_rain, .inl (cA, 8, .inl c_t_rain)), (t_moss, .inl (cA, 6, .inl c_t_moss)), (t_mossThen, .inl (cA, 6, .inl u1_t_mossThen))] H := hP
  have hD : va_D A [(t, .inr (7, [.ref t_page, .int t_pageMany, .int t_end, .int t_clauses, .int t_rains, .int t_weekNext, .int t_breaths, .int t_wallsRead, .ref t_kinds, .ref t_deep, .ref t_leans, .ref t_moss, .ref t_rain, .ref t_mossThen, .ref t_when, .int t_needsDone, .int t_seenMany, .ref t_sights, .int t_seedNow, .int t_keptWall, .int t_keptWeek, .int t_keptBreaths, .int t_keptSeen, .ref t_keptKinds, .ref t_keptDeep, .ref t_keptLeans, .ref t_keptMoss, .ref t_keptSights, .long t_hash])), (t_kinds, .inl (cA, 6, .inl c_t_kinds)), (t_deep, .inl (cA, 6, .inl c_t_deep)), (t_leans, .inl (cA, 6, .inl c_t_leans)), (t_rain, .inl (cA, 8, .inl c_t_rain)), (t_moss, .inl (cA, 6, .inl c_t_moss)), (t_mossThen, .inl (cA, 6, .inl u1_t_mossThen))] := hD
  refine lv_aload_n hx hb dX7_begin_11 rfl (lv_at hl 0 rfl) ?_
  refine lv_iload_n hx hb dX7_begin_12 rfl (lv_at hl 1 rfl) ?_
  obtain ⟨u2_t_mossThen, h2, hM⟩ := mw_d1 hM
  have hPc := hP.sub (ws' := [(t, .inr (7, [.ref t_page, .int t_pageMany, .int t_end, .int t_clauses, .int t_rains, .int t_weekNext, .int t_breaths, .int t_wallsRead, .ref t_kinds, .ref t_deep, .ref t_leans, .ref t_moss, .ref t_rain, .ref t_mossThen, .ref t_when, .int t_needsDone, .int t_seenMany, .ref t_sights, .int t_seedNow, .int t_keptWall, .int t_keptWeek, .int t_keptBreaths, .int t_keptSeen, .ref t_keptKinds, .ref t_keptDeep, .ref t_keptLeans, .ref t_keptMoss, .ref t_keptSights, .long t_hash])), (t_kinds, .inl (cA, 6, .inl c_t_kinds)), (t_deep, .inl (cA, 6, .inl c_t_deep)), (t_leans, .inl (cA, 6, .inl c_t_leans)), (t_rain, .inl (cA, 8, .inl c_t_rain)), (t_mossThen, .inl (cA, 6, .inl u1_t_mossThen))]) [0, 1, 2, 3, 4, 6] rfl
  have hDc := hD.sub (ws' := [(t, .inr (7, [.ref t_page, .int t_pageMany, .int t_end, .int t_clauses, .int t_rains, .int t_weekNext, .int t_breaths, .int t_wallsRead, .ref t_kinds, .ref t_deep, .ref t_leans, .ref t_moss, .ref t_rain, .ref t_mossThen, .ref t_when, .int t_needsDone, .int t_seenMany, .ref t_sights, .int t_seedNow, .int t_keptWall, .int t_keptWeek, .int t_keptBreaths, .int t_keptSeen, .ref t_keptKinds, .ref t_keptDeep, .ref t_keptLeans, .ref t_keptMoss, .ref t_keptSights, .long t_hash])), (t_kinds, .inl (cA, 6, .inl c_t_kinds)), (t_deep, .inl (cA, 6, .inl c_t_deep)), (t_leans, .inl (cA, 6, .inl c_t_leans)), (t_rain, .inl (cA, 8, .inl c_t_rain)), (t_mossThen, .inl (cA, 6, .inl u1_t_mossThen))]) [0, 1, 2, 3, 4, 6] (by decide) rfl
  have hFc := va_free (wc := [(t, .inr (7, [.ref t_page, .int t_pageMany, .int t_end, .int t_clauses, .int t_rains, .int t_weekNext, .int t_breaths, .int t_wallsRead, .ref t_kinds, .ref t_deep, .ref t_leans, .ref t_moss, .ref t_rain, .ref t_mossThen, .ref t_when, .int t_needsDone, .int t_seenMany, .ref t_sights, .int t_seedNow, .int t_keptWall, .int t_keptWeek, .int t_keptBreaths, .int t_keptSeen, .ref t_keptKinds, .ref t_keptDeep, .ref t_keptLeans, .ref t_keptMoss, .ref t_keptSights, .long t_hash])), (t_kinds, .inl (cA, 6, .inl c_t_kinds)), (t_deep, .inl (cA, 6, .inl c_t_deep)), (t_leans, .inl (cA, 6, .inl c_t_leans)), (t_rain, .inl (cA, 8, .inl c_t_rain)), (t_mossThen, .inl (cA, 6, .inl u1_t_mossThen))]) hD hS hA [0, 1, 2, 3, 4, 6] rfl
  refine va_callv (va_runV (As := [.int p1]) (rest := []) ⟨hx, hb, hml, hown, hts⟩ (kX7_goOn l D cA t t_page t_kinds t_deep t_leans t_moss t_rain t_mossThen t_when t_sights t_keptKinds t_keptDeep t_keptLeans t_keptMoss t_keptSights _ t_pageMany t_end t_clauses t_rains t_weekNext t_breaths t_wallsRead t_needsDone t_seenMany t_seedNow t_keptWall t_keptWeek t_keptBreaths t_keptSeen t_hash c_t_kinds c_t_deep c_t_leans c_t_rain u1_t_mossThen p1 u2_t_mossThen h2) (cwV 1 hts gX7_begin_X7_goOn rfl rfl rfl (by decide +kernel) ⟨Nat.le_of_ble_eq_true rfl, Nat.le_of_ble_eq_true rfl⟩) ⟨mw_fbW, va_recv hK hP (ci := 7) (q0 := 0) rfl rfl, mw_puW hPc hE hDc⟩ rfl rfl hl.1 rfl (lv_room (Nat.le_of_ble_eq_true rfl)) dX7_begin_13 ⟨Nat.zero_le _, Nat.zero_le _⟩) hS (fun q _ h => hFc q h) hFc (fun _ t_ H locs ht_ _ _ hB_ _ hk_ hS => ?_)
  obtain ⟨hP1, hD1⟩ := hB_
  rw [ht_] at hP1
  obtain ⟨hP, hD⟩ := va_join (wr := [(t_moss, .inl (cA, 6, .inl c_t_moss))]) (w1 := [(t, .inr (7, [.ref t_page, .int t_pageMany, .int t_end, .int t_clauses, .int t_rains, .int t_weekNext, .int t_breaths, .int t_wallsRead, .ref t_kinds, .ref t_deep, .ref t_leans, .ref t_moss, .ref t_rain, .ref t_mossThen, .ref t_when, .int t_needsDone, .int t_seenMany, .ref t_sights, .int t_seedNow, .int t_keptWall, .int t_keptWeek, .int t_keptBreaths, .int t_keptSeen, .ref t_keptKinds, .ref t_keptDeep, .ref t_keptLeans, .ref t_keptMoss, .ref t_keptSights, .long t_hash])), (t_kinds, .inl (cA, 6, .inl c_t_kinds)), (t_deep, .inl (cA, 6, .inl c_t_deep)), (t_leans, .inl (cA, 6, .inl c_t_leans)), (t_rain, .inl (cA, 8, .inl c_t_rain)), (t_mossThen, .inl (cA, 6, .inl u2_t_mossThen))]) hP hD [0, 1, 2, 3, 4, 6] [5] rfl rfl (by decide) (by decide) hk_ hFc hP1 hD1
  have hP : va_P D vwCl [(t_moss, .inl (cA, 6, .inl c_t_moss)), (t, .inr (7, [.ref t_page, .int t_pageMany, .int t_end, .int t_clauses, .int t_rains, .int t_weekNext, .int t_breaths, .int t_wallsRead, .ref t_kinds, .ref t_deep, .ref t_leans, .ref t_moss, .ref t_rain, .ref t_mossThen, .ref t_when, .int t_needsDone, .int t_seenMany, .ref t_sights, .int t_seedNow, .int t_keptWall, .int t_keptWeek, .int t_keptBreaths, .int t_keptSeen, .ref t_keptKinds, .ref t_keptDeep, .ref t_keptLeans, .ref t_keptMoss, .ref t_keptSights, .long t_hash])), (t_kinds, .inl (cA, 6, .inl c_t_kinds)), (t_deep, .inl (cA, 6, .inl c_t_deep)), (t_leans, .inl (cA, 6, .inl c_t_leans)), (t_rain, .inl (cA, 8, .inl c_t_rain)), (t_mossThen, .inl (cA, 6, .inl u2_t_mossThen))] H := hP
  have hD : va_D A [(t_moss, .inl (cA, 6, .inl c_t_moss)), (t, .inr (7, [.ref t_page, .int t_pageMany, .int t_end, .int t_clauses, .int t_rains, .int t_weekNext, .int t_breaths, .int t_wallsRead, .ref t_kinds, .ref t_deep, .ref t_leans, .ref t_moss, .ref t_rain, .ref t_mossThen, .ref t_when, .int t_needsDone, .int t_seenMany, .ref t_sights, .int t_seedNow, .int t_keptWall, .int t_keptWeek, .int t_keptBreaths, .int t_keptSeen, .ref t_keptKinds, .ref t_keptDeep, .ref t_keptLeans, .ref t_keptMoss, .ref t_keptSights, .long t_hash])), (t_kinds, .inl (cA, 6, .inl c_t_kinds)), (t_deep, .inl (cA, 6, .inl c_t_deep)), (t_leans, .inl (cA, 6, .inl c_t_leans)), (t_rain, .inl (cA, 8, .inl c_t_rain)), (t_mossThen, .inl (cA, 6, .inl u2_t_mossThen))] := hD
  have hP := hP.sub (ws' := [(t, .inr (7, [.ref t_page, .int t_pageMany, .int t_end, .int t_clauses, .int t_rains, .int t_weekNext, .int t_breaths, .int t_wallsRead, .ref t_kinds, .ref t_deep, .ref t_leans, .ref t_moss, .ref t_rain, .ref t_mossThen, .ref t_when, .int t_needsDone, .int t_seenMany, .ref t_sights, .int t_seedNow, .int t_keptWall, .int t_keptWeek, .int t_keptBreaths, .int t_keptSeen, .ref t_keptKinds, .ref t_keptDeep, .ref t_keptLeans, .ref t_keptMoss, .ref t_keptSights, .long t_hash])), (t_kinds, .inl (cA, 6, .inl c_t_kinds)), (t_deep, .inl (cA, 6, .inl c_t_deep)), (t_leans, .inl (cA, 6, .inl c_t_leans)), (t_moss, .inl (cA, 6, .inl c_t_moss)), (t_rain, .inl (cA, 8, .inl c_t_rain)), (t_mossThen, .inl (cA, 6, .inl u2_t_mossThen))]) [1, 2, 3, 4, 0, 5, 6] rfl
  have hD := hD.sub (ws' := [(t, .inr (7, [.ref t_page, .int t_pageMany, .int t_end, .int t_clauses, .int t_rains, .int t_weekNext, .int t_breaths, .int t_wallsRead, .ref t_kinds, .ref t_deep, .ref t_leans, .ref t_moss, .ref t_rain, .ref t_mossThen, .ref t_when, .int t_needsDone, .int t_seenMany, .ref t_sights, .int t_seedNow, .int t_keptWall, .int t_keptWeek, .int t_keptBreaths, .int t_keptSeen, .ref t_keptKinds, .ref t_keptDeep, .ref t_keptLeans, .ref t_keptMoss, .ref t_keptSights, .long t_hash])), (t_kinds, .inl (cA, 6, .inl c_t_kinds)), (t_deep, .inl (cA, 6, .inl c_t_deep)), (t_leans, .inl (cA, 6, .inl c_t_leans)), (t_moss, .inl (cA, 6, .inl c_t_moss)), (t_rain, .inl (cA, 8, .inl c_t_rain)), (t_mossThen, .inl (cA, 6, .inl u2_t_mossThen))]) [1, 2, 3, 4, 0, 5, 6] (by decide) rfl
  obtain rfl := mw_o1 hM
  subst hQ
  exact W.vret hx hb hr (fun t ht hW => ⟨⟨(), rfl, trivial, by rw [ht]; exact hP, hD⟩, hS.F ht⟩) hS.2.2 dX7_begin_16
def mX7_layWhen_L3 (t_clauses : Int32) (c_t_deep : Nat → Int32) (x1_2 : Int32) (y2_t_mossThen : Nat → Int32) (k3_96 : Int32 → (Nat → Int32) → Option ((Nat → Int32) × (Nat → Int32))) : Nat → Int32 → (Nat → Int32) → Option ((Nat → Int32) × (Nat → Int32))
  | 0, _, _ => none
  | n3 + 1, x2_3, y3_t_when =>
    (if t_clauses ≤ x2_3 then k3_96 x2_3 y3_t_when else (mw_rd y3_t_when 6 x2_3).bind fun e6 => (if e6 = ((-1)) then (mX7_isClosed c_t_deep 6 y2_t_mossThen x2_3).bind fun r10 => (if r10 = 0 then (mw_rd y3_t_when 6 x2_3).bind fun e12 => (mw_wr y3_t_when 6 x2_3 e12).bind fun a13_when => mX7_layWhen_L3 t_clauses c_t_deep x1_2 y2_t_mossThen k3_96 n3 (x2_3 + 1) a13_when else (mw_wr y3_t_when 6 x2_3 x1_2).bind fun a14_when => mX7_layWhen_L3 t_clauses c_t_deep x1_2 y2_t_mossThen k3_96 n3 (x2_3 + 1) a14_when) else (mw_rd y3_t_when 6 x2_3).bind fun e8 => (mw_wr y3_t_when 6 x2_3 e8).bind fun a9_when => mX7_layWhen_L3 t_clauses c_t_deep x1_2 y2_t_mossThen k3_96 n3 (x2_3 + 1) a9_when))
def mX7_layWhen_L2 (t_clauses : Int32) (t_rains : Int32) (t_weekNext : Int32) (c_t_kinds : Nat → Int32) (c_t_deep : Nat → Int32) (c_t_leans : Nat → Int32) (c_t_rain : Nat → Int32) (k2_120 : Int32 → (Nat → Int32) → (Nat → Int32) → Option ((Nat → Int32) × (Nat → Int32))) : Nat → Int32 → (Nat → Int32) → (Nat → Int32) → Option ((Nat → Int32) × (Nat → Int32))
  | 0, _, _, _ => none
  | n2 + 1, x1_2, y2_t_mossThen, y2_t_when =>
    (if 41 ≤ x1_2 then k2_120 x1_2 y2_t_mossThen y2_t_when else mX7_layWhen_L3 t_clauses c_t_deep x1_2 y2_t_mossThen (fun (x2_3 : Int32) (y3_t_when : Nat → Int32) => (mX7_rainOf t_rains c_t_rain (t_weekNext + x1_2)).bind fun r15 => (mX7_grow t_clauses c_t_kinds c_t_deep c_t_leans 6 y2_t_mossThen r15).bind fun u16_t_mossThen => mX7_layWhen_L2 t_clauses t_rains t_weekNext c_t_kinds c_t_deep c_t_leans c_t_rain k2_120 n2 (x1_2 + 1) u16_t_mossThen y3_t_when) 300 0 y2_t_when)
def mX7_layWhen_L1 (t_clauses : Int32) (k1_34 : Int32 → (Nat → Int32) → Option ((Nat → Int32) × (Nat → Int32))) : Nat → Int32 → (Nat → Int32) → Option ((Nat → Int32) × (Nat → Int32))
  | 0, _, _ => none
  | n1 + 1, x1_1, y1_t_when =>
    (if t_clauses ≤ x1_1 then k1_34 x1_1 y1_t_when else (mw_wr y1_t_when 6 x1_1 ((-1))).bind fun a3_when => mX7_layWhen_L1 t_clauses k1_34 n1 (x1_1 + 1) a3_when)
def mX7_layWhen (t_clauses : Int32) (t_rains : Int32) (t_weekNext : Int32) (c_t_kinds : Nat → Int32) (c_t_deep : Nat → Int32) (c_t_leans : Nat → Int32) (c_t_moss : Nat → Int32) (c_t_rain : Nat → Int32) (c_t_mossThen : Nat → Int32) (c_t_when : Nat → Int32) : Option ((Nat → Int32) × (Nat → Int32)) :=
  (mX7_copy 6 c_t_moss 6 c_t_mossThen).bind fun u1_t_mossThen => mX7_layWhen_L1 t_clauses (fun (x1_1 : Int32) (y1_t_when : Nat → Int32) => mX7_layWhen_L2 t_clauses t_rains t_weekNext c_t_kinds c_t_deep c_t_leans c_t_rain (fun (x1_2 : Int32) (y2_t_mossThen : Nat → Int32) (y2_t_when : Nat → Int32) => some (y2_t_mossThen, y2_t_when)) 300 0 u1_t_mossThen y1_t_when) 300 0 c_t_when
abbrev rmX7_layWhen : Room := ({ frames := 3, cells := 0, slots := 0, locals := 71 } : Room)
set_option maxHeartbeats 4000000 in
set_option maxRecDepth 100000 in
theorem kX7_layWhen (l : Launch) (D : va_G) (cA : ClassId) (t t_page t_kinds t_deep t_leans t_moss t_rain t_mossThen t_when t_sights t_keptKinds t_keptDeep t_keptLeans t_keptMoss t_keptSights : Nat) (sz : Nat) (t_pageMany : Int32) (t_end : Int32) (t_clauses : Int32) (t_rains : Int32) (t_weekNext : Int32) (t_breaths : Int32) (t_wallsRead : Int32) (t_needsDone : Int32) (t_seenMany : Int32) (t_seedNow : Int32) (t_keptWall : Int32) (t_keptWeek : Int32) (t_keptBreaths : Int32) (t_keptSeen : Int32) (t_hash : Int64) (c_t_kinds : Nat → Int32) (c_t_deep : Nat → Int32) (c_t_leans : Nat → Int32) (c_t_moss : Nat → Int32) (c_t_rain : Nat → Int32) (c_t_mossThen : Nat → Int32) (c_t_when : Nat → Int32) (o_c_t_mossThen : Nat → Int32) (o_c_t_when : Nat → Int32) (hM : mX7_layWhen t_clauses t_rains t_weekNext c_t_kinds c_t_deep c_t_leans c_t_moss c_t_rain c_t_mossThen c_t_when = some (o_c_t_mossThen, o_c_t_when)) : Met l yX7_layWhen wsX7_layWhen rmX7_layWhen (va_Pc [.ref t] (fun U => U.heap.size = sz ∧ va_P D vwCl [(t, .inr (7, [.ref t_page, .int t_pageMany, .int t_end, .int t_clauses, .int t_rains, .int t_weekNext, .int t_breaths, .int t_wallsRead, .ref t_kinds, .ref t_deep, .ref t_leans, .ref t_moss, .ref t_rain, .ref t_mossThen, .ref t_when, .int t_needsDone, .int t_seenMany, .ref t_sights, .int t_seedNow, .int t_keptWall, .int t_keptWeek, .int t_keptBreaths, .int t_keptSeen, .ref t_keptKinds, .ref t_keptDeep, .ref t_keptLeans, .ref t_keptMoss, .ref t_keptSights, .long t_hash])), (t_kinds, .inl (cA, 6, .inl c_t_kinds)), (t_deep, .inl (cA, 6, .inl c_t_deep)), (t_leans, .inl (cA, 6, .inl c_t_leans)), (t_moss, .inl (cA, 6, .inl c_t_moss)), (t_rain, .inl (cA, 8, .inl c_t_rain)), (t_mossThen, .inl (cA, 6, .inl c_t_mossThen)), (t_when, .inl (cA, 6, .inl c_t_when))] U.heap ∧ mw_ev D cA U ∧ va_D (fun _ => True) [(t, .inr (7, [.ref t_page, .int t_pageMany, .int t_end, .int t_clauses, .int t_rains, .int t_weekNext, .int t_breaths, .int t_wallsRead, .ref t_kinds, .ref t_deep, .ref t_leans, .ref t_moss, .ref t_rain, .ref t_mossThen, .ref t_when, .int t_needsDone, .int t_seenMany, .ref t_sights, .int t_seedNow, .int t_keptWall, .int t_keptWeek, .int t_keptBreaths, .int t_keptSeen, .ref t_keptKinds, .ref t_keptDeep, .ref t_keptLeans, .ref t_keptMoss, .ref t_keptSights, .long t_hash])), (t_kinds, .inl (cA, 6, .inl c_t_kinds)), (t_deep, .inl (cA, 6, .inl c_t_deep)), (t_leans, .inl (cA, 6, .inl c_t_leans)), (t_moss, .inl (cA, 6, .inl c_t_moss)), (t_rain, .inl (cA, 8, .inl c_t_rain)), (t_mossThen, .inl (cA, 6, .inl c_t_mossThen)), (t_when, .inl (cA, 6, .inl c_t_when))])) (va_Qv (fun (_ : Unit) => True) (fun (_ : Unit) w_ => va_P D vwCl [(t, .inr (7, [.ref t_page, .int t_pageMany, .int t_end, .int t_clauses, .int t_rains, .int t_weekNext, .int t_breaths, .int t_wallsRead, .ref t_kinds, .ref t_deep, .ref t_leans, .ref t_moss, .ref t_rain, .ref t_mossThen, .ref t_when, .int t_needsDone, .int t_seenMany, .ref t_sights, .int t_seedNow, .int t_keptWall, .int t_keptWeek, .int t_keptBreaths, .int t_keptSeen, .ref t_keptKinds, .ref t_keptDeep, .ref t_keptLeans, .ref t_keptMoss, .ref t_keptSights, .long t_hash])), (t_kinds, .inl (cA, 6, .inl c_t_kinds)), (t_deep, .inl (cA, 6, .inl c_t_deep)), (t_leans, .inl (cA, 6, .inl c_t_leans)), (t_moss, .inl (cA, 6, .inl c_t_moss)), (t_rain, .inl (cA, 8, .inl c_t_rain)), (t_mossThen, .inl (cA, 6, .inl o_c_t_mossThen)), (t_when, .inl (cA, 6, .inl o_c_t_when))] w_.heap ∧ va_D (va_A [(t, .inr (7, [.ref t_page, .int t_pageMany, .int t_end, .int t_clauses, .int t_rains, .int t_weekNext, .int t_breaths, .int t_wallsRead, .ref t_kinds, .ref t_deep, .ref t_leans, .ref t_moss, .ref t_rain, .ref t_mossThen, .ref t_when, .int t_needsDone, .int t_seenMany, .ref t_sights, .int t_seedNow, .int t_keptWall, .int t_keptWeek, .int t_keptBreaths, .int t_keptSeen, .ref t_keptKinds, .ref t_keptDeep, .ref t_keptLeans, .ref t_keptMoss, .ref t_keptSights, .long t_hash])), (t_kinds, .inl (cA, 6, .inl c_t_kinds)), (t_deep, .inl (cA, 6, .inl c_t_deep)), (t_leans, .inl (cA, 6, .inl c_t_leans)), (t_moss, .inl (cA, 6, .inl c_t_moss)), (t_rain, .inl (cA, 8, .inl c_t_rain)), (t_mossThen, .inl (cA, 6, .inl c_t_mossThen)), (t_when, .inl (cA, 6, .inl c_t_when))] sz) [(t, .inr (7, [.ref t_page, .int t_pageMany, .int t_end, .int t_clauses, .int t_rains, .int t_weekNext, .int t_breaths, .int t_wallsRead, .ref t_kinds, .ref t_deep, .ref t_leans, .ref t_moss, .ref t_rain, .ref t_mossThen, .ref t_when, .int t_needsDone, .int t_seenMany, .ref t_sights, .int t_seedNow, .int t_keptWall, .int t_keptWeek, .int t_keptBreaths, .int t_keptSeen, .ref t_keptKinds, .ref t_keptDeep, .ref t_keptLeans, .ref t_keptMoss, .ref t_keptSights, .long t_hash])), (t_kinds, .inl (cA, 6, .inl c_t_kinds)), (t_deep, .inl (cA, 6, .inl c_t_deep)), (t_leans, .inl (cA, 6, .inl c_t_leans)), (t_moss, .inl (cA, 6, .inl c_t_moss)), (t_rain, .inl (cA, 8, .inl c_t_rain)), (t_mossThen, .inl (cA, 6, .inl o_c_t_mossThen)), (t_when, .inl (cA, 6, .inl o_c_t_when))]) (va_A [(t, .inr (7, [.ref t_page, .int t_pageMany, .int t_end, .int t_clauses, .int t_rains, .int t_weekNext, .int t_breaths, .int t_wallsRead, .ref t_kinds, .ref t_deep, .ref t_leans, .ref t_moss, .ref t_rain, .ref t_mossThen, .ref t_when, .int t_needsDone, .int t_seenMany, .ref t_sights, .int t_seedNow, .int t_keptWall, .int t_keptWeek, .int t_keptBreaths, .int t_keptSeen, .ref t_keptKinds, .ref t_keptDeep, .ref t_keptLeans, .ref t_keptMoss, .ref t_keptSights, .long t_hash])), (t_kinds, .inl (cA, 6, .inl c_t_kinds)), (t_deep, .inl (cA, 6, .inl c_t_deep)), (t_leans, .inl (cA, 6, .inl c_t_leans)), (t_moss, .inl (cA, 6, .inl c_t_moss)), (t_rain, .inl (cA, 8, .inl c_t_rain)), (t_mossThen, .inl (cA, 6, .inl c_t_mossThen)), (t_when, .inl (cA, 6, .inl c_t_when))] sz)) 0 0 (va_A [(t, .inr (7, [.ref t_page, .int t_pageMany, .int t_end, .int t_clauses, .int t_rains, .int t_weekNext, .int t_breaths, .int t_wallsRead, .ref t_kinds, .ref t_deep, .ref t_leans, .ref t_moss, .ref t_rain, .ref t_mossThen, .ref t_when, .int t_needsDone, .int t_seenMany, .ref t_sights, .int t_seedNow, .int t_keptWall, .int t_keptWeek, .int t_keptBreaths, .int t_keptSeen, .ref t_keptKinds, .ref t_keptDeep, .ref t_keptLeans, .ref t_keptMoss, .ref t_keptSights, .long t_hash])), (t_kinds, .inl (cA, 6, .inl c_t_kinds)), (t_deep, .inl (cA, 6, .inl c_t_deep)), (t_leans, .inl (cA, 6, .inl c_t_leans)), (t_moss, .inl (cA, 6, .inl c_t_moss)), (t_rain, .inl (cA, 8, .inl c_t_rain)), (t_mossThen, .inl (cA, 6, .inl c_t_mossThen)), (t_when, .inl (cA, 6, .inl c_t_when))] sz) := by
  unfold mX7_layWhen at hM
  refine Met.ofW (cc := cX7_layWhen) (maxL := 3) (ret := none) (by decide) rfl ?_
  intro p e s m args below meth c s₁ B hml hv
  obtain ⟨rfl, hsz, hP, hE, hD0⟩ := hv
  have hx := B.exec
  have hb := B.bytes
  have hr := B.returns
  have hts := atoms_spec (ws := wsX7_layWhen) B.pre
  have hown : s.vm.findClass RX7 = some m.cls := findClass_of_methodNamed B.named
  have hlocks := B.notSynchronized
  have hK := hE.1
  subst hsz
  have hD := hD0.self (sz := s.heap.size)
  generalize hAe : va_A [(t, .inr (7, [.ref t_page, .int t_pageMany, .int t_end, .int t_clauses, .int t_rains, .int t_weekNext, .int t_breaths, .int t_wallsRead, .ref t_kinds, .ref t_deep, .ref t_leans, .ref t_moss, .ref t_rain, .ref t_mossThen, .ref t_when, .int t_needsDone, .int t_seenMany, .ref t_sights, .int t_seedNow, .int t_keptWall, .int t_keptWeek, .int t_keptBreaths, .int t_keptSeen, .ref t_keptKinds, .ref t_keptDeep, .ref t_keptLeans, .ref t_keptMoss, .ref t_keptSights, .long t_hash])), (t_kinds, .inl (cA, 6, .inl c_t_kinds)), (t_deep, .inl (cA, 6, .inl c_t_deep)), (t_leans, .inl (cA, 6, .inl c_t_leans)), (t_moss, .inl (cA, 6, .inl c_t_moss)), (t_rain, .inl (cA, 8, .inl c_t_rain)), (t_mossThen, .inl (cA, 6, .inl c_t_mossThen)), (t_when, .inl (cA, 6, .inl c_t_when))] s.heap.size = A at hD ⊢
  have hA : ∀ q : Nat, s.heap.size ≤ q → A q := fun q h => by rw [← hAe]; exact Or.inr h
  have hS : va_S A s.heap s.heap [] := va_S.rf
  have hl := lv_entry ([.ref t]) (n := 3) (Nat.le_of_ble_eq_true rfl)
  rw [lg_entry_eq]
  generalize (lg_sl ([.ref t]) ++ List.replicate (3 - (lg_sl ([.ref t])).length) Slot.unset).toArray = ls at hl ⊢
  have hl : lv_has ls 3 [(0, .ref t)] := hl
  refine mw_q (P := fun Q => W p l e (headSpec wsX7_layWhen rmX7_layWhen).room s m (([.ref t] : List Value).toArray) below meth c s.heap [] 0 0 Q (F0 m 0 ls [])) (fun Q hQ => ?_)
  refine lv_aload_n hx hb dX7_layWhen_0 rfl (lv_at hl 0 rfl) ?_
  refine va_get (D := D) (ci := 7) (v := .ref t_moss) (C := RX7) (T := TX7) (N := 29) hx hb hts (fun _ h => List.mem_cons_of_mem _ (List.mem_append_right _ (h))) hown hK hP 0 rfl rfl 11 (by decide) (hts (.fieldLink RX7 22 "MossWallModel" "moss" "[I") (List.mem_cons_of_mem _ (List.mem_append_left _ (List.mem_append_left _ (List.mem_of_getElem? (i := 0) rfl))))) (fun _ h9 => h9) rfl dX7_layWhen_1 ?_
  refine lv_aload_n hx hb dX7_layWhen_4 rfl (lv_at hl 0 rfl) ?_
  refine va_get (D := D) (ci := 7) (v := .ref t_mossThen) (C := RX7) (T := TX7) (N := 29) hx hb hts (fun _ h => List.mem_cons_of_mem _ (List.mem_append_right _ (h))) hown hK hP 0 rfl rfl 13 (by decide) (hts (.fieldLink RX7 28 "MossWallModel" "mossThen" "[I") (List.mem_cons_of_mem _ (List.mem_append_left _ (List.mem_append_left _ (List.mem_of_getElem? (i := 1) rfl))))) (fun _ h9 => h9) rfl dX7_layWhen_5 ?_
  obtain ⟨u1_t_mossThen, h1, hM⟩ := mw_d1 hM
  have hPc := hP.sub (ws' := [(t_moss, .inl (cA, 6, .inl c_t_moss)), (t_mossThen, .inl (cA, 6, .inl c_t_mossThen))]) [4, 6] rfl
  have hDc := hD.sub (ws' := [(t_moss, .inl (cA, 6, .inl c_t_moss)), (t_mossThen, .inl (cA, 6, .inl c_t_mossThen))]) [4, 6] (by decide) rfl
  have hFc := va_free (wc := [(t_moss, .inl (cA, 6, .inl c_t_moss)), (t_mossThen, .inl (cA, 6, .inl c_t_mossThen))]) hD hS hA [4, 6] rfl
  refine va_callv (va_runS (As := [.ref t_moss, .ref t_mossThen]) (rest := []) ⟨hx, hb, hml, hown, hts⟩ (kX7_copy l D cA t_moss t_mossThen _ 6 c_t_moss 6 c_t_mossThen u1_t_mossThen h1) (va_cwS 2 hts gX7_layWhen_X7_copy rfl rfl rfl (by decide +kernel) ⟨Nat.le_of_ble_eq_true rfl, Nat.le_of_ble_eq_true rfl⟩) ⟨mw_fbW, mw_puW hPc hE hDc⟩ rfl rfl hl.1 rfl (lv_room (Nat.le_of_ble_eq_true rfl)) dX7_layWhen_8 ⟨Nat.zero_le _, Nat.zero_le _⟩) hS (fun q _ h => hFc q h) hFc (fun _ t_ H locs ht_ _ _ hB_ _ hk_ hS => ?_)
  obtain ⟨hP1, hD1⟩ := hB_
  rw [ht_] at hP1
  obtain ⟨hP, hD⟩ := va_join (wr := [(t, .inr (7, [.ref t_page, .int t_pageMany, .int t_end, .int t_clauses, .int t_rains, .int t_weekNext, .int t_breaths, .int t_wallsRead, .ref t_kinds, .ref t_deep, .ref t_leans, .ref t_moss, .ref t_rain, .ref t_mossThen, .ref t_when, .int t_needsDone, .int t_seenMany, .ref t_sights, .int t_seedNow, .int t_keptWall, .int t_keptWeek, .int t_keptBreaths, .int t_keptSeen, .ref t_keptKinds, .ref t_keptDeep, .ref t_keptLeans, .ref t_keptMoss, .ref t_keptSights, .long t_hash])), (t_kinds, .inl (cA, 6, .inl c_t_kinds)), (t_deep, .inl (cA, 6, .inl c_t_deep)), (t_leans, .inl (cA, 6, .inl c_t_leans)), (t_rain, .inl (cA, 8, .inl c_t_rain)), (t_when, .inl (cA, 6, .inl c_t_when))]) (w1 := [(t_moss, .inl (cA, 6, .inl c_t_moss)), (t_mossThen, .inl (cA, 6, .inl u1_t_mossThen))]) hP hD [4, 6] [0, 1, 2, 3, 5, 7] rfl rfl (by decide) (by decide) hk_ hFc hP1 hD1
  have hP : va_P D vwCl [(t, .inr (7, [.ref t_page, .int t_pageMany, .int t_end, .int t_clauses, .int t_rains, .int t_weekNext, .int t_breaths, .int t_wallsRead, .ref t_kinds, .ref t_deep, .ref t_leans, .ref t_moss, .ref t_rain, .ref t_mossThen, .ref t_when, .int t_needsDone, .int t_seenMany, .ref t_sights, .int t_seedNow, .int t_keptWall, .int t_keptWeek, .int t_keptBreaths, .int t_keptSeen, .ref t_keptKinds, .ref t_keptDeep, .ref t_keptLeans, .ref t_keptMoss, .ref t_keptSights, .long t_hash])), (t_kinds, .inl (cA, 6, .inl c_t_kinds)), (t_deep, .inl (cA, 6, .inl c_t_deep)), (t_leans, .inl (cA, 6, .inl c_t_leans)), (t_rain, .inl (cA, 8, .inl c_t_rain)), (t_when, .inl (cA, 6, .inl c_t_when)), (t_moss, .inl (cA, 6, .inl c_t_moss)), (t_mossThen, .inl (cA, 6, .inl u1_t_mossThen))] H := hP
  have hD : va_D A [(t, .inr (7, [.ref t_page, .int t_pageMany, .int t_end, .int t_clauses, .int t_rains, .int t_weekNext, .int t_breaths, .int t_wallsRead, .ref t_kinds, .ref t_deep, .ref t_leans, .ref t_moss, .ref t_rain, .ref t_mossThen, .ref t_when, .int t_needsDone, .int t_seenMany, .ref t_sights, .int t_seedNow, .int t_keptWall, .int t_keptWeek, .int t_keptBreaths, .int t_keptSeen, .ref t_keptKinds, .ref t_keptDeep, .ref t_keptLeans, .ref t_keptMoss, .ref t_keptSights, .long t_hash])), (t_kinds, .inl (cA, 6, .inl c_t_kinds)), (t_deep, .inl (cA, 6, .inl c_t_deep)), (t_leans, .inl (cA, 6, .inl c_t_leans)), (t_rain, .inl (cA, 8, .inl c_t_rain)), (t_when, .inl (cA, 6, .inl c_t_when)), (t_moss, .inl (cA, 6, .inl c_t_moss)), (t_mossThen, .inl (cA, 6, .inl u1_t_mossThen))] := hD
  refine lv_iconst (v := 0) hx hb dX7_layWhen_11 (by decide) ?_
  refine lv_istore_n (lv' := [(1, .int 0), (0, .ref t)]) hx hb dX7_layWhen_12 rfl hl (by decide) rfl (fun ls hl => ?_)
  obtain ⟨k1_34, jk1_34⟩ : ∃ k : Int32 → (Nat → Int32) → Option ((Nat → Int32) × (Nat → Int32)), k = fun (x1_1 : Int32) (y1_t_when : Nat → Int32) => mX7_layWhen_L2 t_clauses t_rains t_weekNext c_t_kinds c_t_deep c_t_leans c_t_rain (fun (x1_2 : Int32) (y2_t_mossThen : Nat → Int32) (y2_t_when : Nat → Int32) => some (y2_t_mossThen, y2_t_when)) 300 0 u1_t_mossThen y1_t_when := ⟨_, rfl⟩
  have Ek1_34 : ∀ (x1_1 : Int32) (y1_t_when : Nat → Int32) (H : Heap) (locs : List Loc) (ls : Array Slot), va_P D vwCl [(t, .inr (7, [.ref t_page, .int t_pageMany, .int t_end, .int t_clauses, .int t_rains, .int t_weekNext, .int t_breaths, .int t_wallsRead, .ref t_kinds, .ref t_deep, .ref t_leans, .ref t_moss, .ref t_rain, .ref t_mossThen, .ref t_when, .int t_needsDone, .int t_seenMany, .ref t_sights, .int t_seedNow, .int t_keptWall, .int t_keptWeek, .int t_keptBreaths, .int t_keptSeen, .ref t_keptKinds, .ref t_keptDeep, .ref t_keptLeans, .ref t_keptMoss, .ref t_keptSights, .long t_hash])), (t_kinds, .inl (cA, 6, .inl c_t_kinds)), (t_deep, .inl (cA, 6, .inl c_t_deep)), (t_leans, .inl (cA, 6, .inl c_t_leans)), (t_rain, .inl (cA, 8, .inl c_t_rain)), (t_when, .inl (cA, 6, .inl y1_t_when)), (t_moss, .inl (cA, 6, .inl c_t_moss)), (t_mossThen, .inl (cA, 6, .inl u1_t_mossThen))] H → va_D A [(t, .inr (7, [.ref t_page, .int t_pageMany, .int t_end, .int t_clauses, .int t_rains, .int t_weekNext, .int t_breaths, .int t_wallsRead, .ref t_kinds, .ref t_deep, .ref t_leans, .ref t_moss, .ref t_rain, .ref t_mossThen, .ref t_when, .int t_needsDone, .int t_seenMany, .ref t_sights, .int t_seedNow, .int t_keptWall, .int t_keptWeek, .int t_keptBreaths, .int t_keptSeen, .ref t_keptKinds, .ref t_keptDeep, .ref t_keptLeans, .ref t_keptMoss, .ref t_keptSights, .long t_hash])), (t_kinds, .inl (cA, 6, .inl c_t_kinds)), (t_deep, .inl (cA, 6, .inl c_t_deep)), (t_leans, .inl (cA, 6, .inl c_t_leans)), (t_rain, .inl (cA, 8, .inl c_t_rain)), (t_when, .inl (cA, 6, .inl y1_t_when)), (t_moss, .inl (cA, 6, .inl c_t_moss)), (t_mossThen, .inl (cA, 6, .inl u1_t_mossThen))] → va_S A s.heap H locs → lv_has ls 3 [(1, .int x1_1), (0, .ref t)] → k1_34 x1_1 y1_t_when = some (o_c_t_mossThen, o_c_t_when) → W p l e (headSpec wsX7_layWhen rmX7_layWhen).room s m (([.ref t] : List Value).toArray) below meth c H locs 0 0 Q (F0 m 34 ls []) := by
      intro x1_1 y1_t_when H locs ls hP hD hS hl hM
      rw [jk1_34] at hM
      refine lv_iconst (v := 0) hx hb dX7_layWhen_34 (by decide) ?_
      refine lv_istore_n (lv' := [(1, .int 0), (0, .ref t)]) hx hb dX7_layWhen_35 rfl hl (by decide) rfl (fun ls hl => ?_)
      obtain ⟨k2_120, jk2_120⟩ : ∃ k : Int32 → (Nat → Int32) → (Nat → Int32) → Option ((Nat → Int32) × (Nat → Int32)), k = fun (x1_2 : Int32) (y2_t_mossThen : Nat → Int32) (y2_t_when : Nat → Int32) => some (y2_t_mossThen, y2_t_when) := ⟨_, rfl⟩
      have Ek2_120 : ∀ (x1_2 : Int32) (y2_t_mossThen : Nat → Int32) (y2_t_when : Nat → Int32) (H : Heap) (locs : List Loc) (ls : Array Slot), va_P D vwCl [(t, .inr (7, [.ref t_page, .int t_pageMany, .int t_end, .int t_clauses, .int t_rains, .int t_weekNext, .int t_breaths, .int t_wallsRead, .ref t_kinds, .ref t_deep, .ref t_leans, .ref t_moss, .ref t_rain, .ref t_mossThen, .ref t_when, .int t_needsDone, .int t_seenMany, .ref t_sights, .int t_seedNow, .int t_keptWall, .int t_keptWeek, .int t_keptBreaths, .int t_keptSeen, .ref t_keptKinds, .ref t_keptDeep, .ref t_keptLeans, .ref t_keptMoss, .ref t_keptSights, .long t_hash])), (t_kinds, .inl (cA, 6, .inl c_t_kinds)), (t_deep, .inl (cA, 6, .inl c_t_deep)), (t_leans, .inl (cA, 6, .inl c_t_leans)), (t_rain, .inl (cA, 8, .inl c_t_rain)), (t_when, .inl (cA, 6, .inl y2_t_when)), (t_moss, .inl (cA, 6, .inl c_t_moss)), (t_mossThen, .inl (cA, 6, .inl y2_t_mossThen))] H → va_D A [(t, .inr (7, [.ref t_page, .int t_pageMany, .int t_end, .int t_clauses, .int t_rains, .int t_weekNext, .int t_breaths, .int t_wallsRead, .ref t_kinds, .ref t_deep, .ref t_leans, .ref t_moss, .ref t_rain, .ref t_mossThen, .ref t_when, .int t_needsDone, .int t_seenMany, .ref t_sights, .int t_seedNow, .int t_keptWall, .int t_keptWeek, .int t_keptBreaths, .int t_keptSeen, .ref t_keptKinds, .ref t_keptDeep, .ref t_keptLeans, .ref t_keptMoss, .ref t_keptSights, .long t_hash])), (t_kinds, .inl (cA, 6, .inl c_t_kinds)), (t_deep, .inl (cA, 6, .inl c_t_deep)), (t_leans, .inl (cA, 6, .inl c_t_leans)), (t_rain, .inl (cA, 8, .inl c_t_rain)), (t_when, .inl (cA, 6, .inl y2_t_when)), (t_moss, .inl (cA, 6, .inl c_t_moss)), (t_mossThen, .inl (cA, 6, .inl y2_t_mossThen))] → va_S A s.heap H locs → lv_has ls 3 [(1, .int x1_2), (0, .ref t)] → k2_120 x1_2 y2_t_mossThen y2_t_when = some (o_c_t_mossThen, o_c_t_when) → W p l e (headSpec wsX7_layWhen rmX7_layWhen).room s m (([.ref t] : List Value).toArray) below meth c H locs 0 0 Q (F0 m 120 ls []) := by
          intro x1_2 y2_t_mossThen y2_t_when H locs ls hP hD hS hl hM
          rw [jk2_120] at hM
          have hP := hP.sub (ws' := [(t, .inr (7, [.ref t_page, .int t_pageMany, .int t_end, .int t_clauses, .int t_rains, .int t_weekNext, .int t_breaths, .int t_wallsRead, .ref t_kinds, .ref t_deep, .ref t_leans, .ref t_moss, .ref t_rain, .ref t_mossThen, .ref t_when, .int t_needsDone, .int t_seenMany, .ref t_sights, .int t_seedNow, .int t_keptWall, .int t_keptWeek, .int t_keptBreaths, .int t_keptSeen, .ref t_keptKinds, .ref t_keptDeep, .ref t_keptLeans, .ref t_keptMoss, .ref t_keptSights, .long t_hash])), (t_kinds, .inl (cA, 6, .inl c_t_kinds)), (t_deep, .inl (cA, 6, .inl c_t_deep)), (t_leans, .inl (cA, 6, .inl c_t_leans)), (t_moss, .inl (cA, 6, .inl c_t_moss)), (t_rain, .inl (cA, 8, .inl c_t_rain)), (t_mossThen, .inl (cA, 6, .inl y2_t_mossThen)), (t_when, .inl (cA, 6, .inl y2_t_when))]) [0, 1, 2, 3, 6, 4, 7, 5] rfl
          have hD := hD.sub (ws' := [(t, .inr (7, [.ref t_page, .int t_pageMany, .int t_end, .int t_clauses, .int t_rains, .int t_weekNext, .int t_breaths, .int t_wallsRead, .ref t_kinds, .ref t_deep, .ref t_leans, .ref t_moss, .ref t_rain, .ref t_mossThen, .ref t_when, .int t_needsDone, .int t_seenMany, .ref t_sights, .int t_seedNow, .int t_keptWall, .int t_keptWeek, .int t_keptBreaths, .int t_keptSeen, .ref t_keptKinds, .ref t_keptDeep, .ref t_keptLeans, .ref t_keptMoss, .ref t_keptSights, .long t_hash])), (t_kinds, .inl (cA, 6, .inl c_t_kinds)), (t_deep, .inl (cA, 6, .inl c_t_deep)), (t_leans, .inl (cA, 6, .inl c_t_leans)), (t_moss, .inl (cA, 6, .inl c_t_moss)), (t_rain, .inl (cA, 8, .inl c_t_rain)), (t_mossThen, .inl (cA, 6, .inl y2_t_mossThen)), (t_when, .inl (cA, 6, .inl y2_t_when))]) [0, 1, 2, 3, 6, 4, 7, 5] (by decide) rfl
          obtain ⟨rfl, rfl⟩ := mw_o2 hM
          subst hQ
          exact W.vret hx hb hr (fun t ht hW => ⟨⟨(), rfl, trivial, by rw [ht]; exact hP, hD⟩, hS.F ht⟩) hS.2.2 dX7_layWhen_120
      have L2 : ∀ (n2 : Nat) (x1_2 : Int32) (y2_t_mossThen : Nat → Int32) (y2_t_when : Nat → Int32) (H : Heap) (locs : List Loc) (ls : Array Slot), va_P D vwCl [(t, .inr (7, [.ref t_page, .int t_pageMany, .int t_end, .int t_clauses, .int t_rains, .int t_weekNext, .int t_breaths, .int t_wallsRead, .ref t_kinds, .ref t_deep, .ref t_leans, .ref t_moss, .ref t_rain, .ref t_mossThen, .ref t_when, .int t_needsDone, .int t_seenMany, .ref t_sights, .int t_seedNow, .int t_keptWall, .int t_keptWeek, .int t_keptBreaths, .int t_keptSeen, .ref t_keptKinds, .ref t_keptDeep, .ref t_keptLeans, .ref t_keptMoss, .ref t_keptSights, .long t_hash])), (t_kinds, .inl (cA, 6, .inl c_t_kinds)), (t_deep, .inl (cA, 6, .inl c_t_deep)), (t_leans, .inl (cA, 6, .inl c_t_leans)), (t_rain, .inl (cA, 8, .inl c_t_rain)), (t_when, .inl (cA, 6, .inl y2_t_when)), (t_moss, .inl (cA, 6, .inl c_t_moss)), (t_mossThen, .inl (cA, 6, .inl y2_t_mossThen))] H → va_D A [(t, .inr (7, [.ref t_page, .int t_pageMany, .int t_end, .int t_clauses, .int t_rains, .int t_weekNext, .int t_breaths, .int t_wallsRead, .ref t_kinds, .ref t_deep, .ref t_leans, .ref t_moss, .ref t_rain, .ref t_mossThen, .ref t_when, .int t_needsDone, .int t_seenMany, .ref t_sights, .int t_seedNow, .int t_keptWall, .int t_keptWeek, .int t_keptBreaths, .int t_keptSeen, .ref t_keptKinds, .ref t_keptDeep, .ref t_keptLeans, .ref t_keptMoss, .ref t_keptSights, .long t_hash])), (t_kinds, .inl (cA, 6, .inl c_t_kinds)), (t_deep, .inl (cA, 6, .inl c_t_deep)), (t_leans, .inl (cA, 6, .inl c_t_leans)), (t_rain, .inl (cA, 8, .inl c_t_rain)), (t_when, .inl (cA, 6, .inl y2_t_when)), (t_moss, .inl (cA, 6, .inl c_t_moss)), (t_mossThen, .inl (cA, 6, .inl y2_t_mossThen))] → va_S A s.heap H locs → lv_has ls 3 [(1, .int x1_2), (0, .ref t)] → mX7_layWhen_L2 t_clauses t_rains t_weekNext c_t_kinds c_t_deep c_t_leans c_t_rain k2_120 n2 x1_2 y2_t_mossThen y2_t_when = some (o_c_t_mossThen, o_c_t_when) → W p l e (headSpec wsX7_layWhen rmX7_layWhen).room s m (([.ref t] : List Value).toArray) below meth c H locs 0 0 Q (F0 m 36 ls []) := by
          intro n2
          induction n2 with
          | zero =>
            intro x1_2 y2_t_mossThen y2_t_when H locs ls hP hD hS hl hM
            rw [mX7_layWhen_L2] at hM
            exact mw_none hM
          | succ n2 ih2 =>
            intro x1_2 y2_t_mossThen y2_t_when H locs ls hP hD hS hl hM
            rw [mX7_layWhen_L2] at hM
            refine lv_iload_n hx hb dX7_layWhen_36 rfl (lv_at hl 0 rfl) ?_
            refine lv_bipush (v := 41) hx hb dX7_layWhen_37 (by decide) ?_
            refine lv_icmp_ge (tgt := 120) hx hb dX7_layWhen_39 (by decide) (fun q4 => ?_) (fun q4 => ?_)
            · replace hM := mw_t hM q4
              exact Ek2_120 x1_2 y2_t_mossThen y2_t_when _ _ _ hP hD hS (lv_sub hl [0, 1] rfl) hM
            · replace hM := mw_f hM q4
              refine lv_iconst (v := 0) hx hb dX7_layWhen_42 (by decide) ?_
              refine lv_istore_n (lv' := [(2, .int 0), (1, .int x1_2), (0, .ref t)]) hx hb dX7_layWhen_43 rfl hl (by decide) rfl (fun ls hl => ?_)
              obtain ⟨k3_96, jk3_96⟩ : ∃ k : Int32 → (Nat → Int32) → Option ((Nat → Int32) × (Nat → Int32)), k = fun (x2_3 : Int32) (y3_t_when : Nat → Int32) => (mX7_rainOf t_rains c_t_rain (t_weekNext + x1_2)).bind fun r15 => (mX7_grow t_clauses c_t_kinds c_t_deep c_t_leans 6 y2_t_mossThen r15).bind fun u16_t_mossThen => mX7_layWhen_L2 t_clauses t_rains t_weekNext c_t_kinds c_t_deep c_t_leans c_t_rain k2_120 n2 (x1_2 + 1) u16_t_mossThen y3_t_when := ⟨_, rfl⟩
              have Ek3_96 : ∀ (x2_3 : Int32) (y3_t_when : Nat → Int32) (H : Heap) (locs : List Loc) (ls : Array Slot), va_P D vwCl [(t, .inr (7, [.ref t_page, .int t_pageMany, .int t_end, .int t_clauses, .int t_rains, .int t_weekNext, .int t_breaths, .int t_wallsRead, .ref t_kinds, .ref t_deep, .ref t_leans, .ref t_moss, .ref t_rain, .ref t_mossThen, .ref t_when, .int t_needsDone, .int t_seenMany, .ref t_sights, .int t_seedNow, .int t_keptWall, .int t_keptWeek, .int t_keptBreaths, .int t_keptSeen, .ref t_keptKinds, .ref t_keptDeep, .ref t_keptLeans, .ref t_keptMoss, .ref t_keptSights, .long t_hash])), (t_kinds, .inl (cA, 6, .inl c_t_kinds)), (t_deep, .inl (cA, 6, .inl c_t_deep)), (t_leans, .inl (cA, 6, .inl c_t_leans)), (t_rain, .inl (cA, 8, .inl c_t_rain)), (t_when, .inl (cA, 6, .inl y3_t_when)), (t_moss, .inl (cA, 6, .inl c_t_moss)), (t_mossThen, .inl (cA, 6, .inl y2_t_mossThen))] H → va_D A [(t, .inr (7, [.ref t_page, .int t_pageMany, .int t_end, .int t_clauses, .int t_rains, .int t_weekNext, .int t_breaths, .int t_wallsRead, .ref t_kinds, .ref t_deep, .ref t_leans, .ref t_moss, .ref t_rain, .ref t_mossThen, .ref t_when, .int t_needsDone, .int t_seenMany, .ref t_sights, .int t_seedNow, .int t_keptWall, .int t_keptWeek, .int t_keptBreaths, .int t_keptSeen, .ref t_keptKinds, .ref t_keptDeep, .ref t_keptLeans, .ref t_keptMoss, .ref t_keptSights, .long t_hash])), (t_kinds, .inl (cA, 6, .inl c_t_kinds)), (t_deep, .inl (cA, 6, .inl c_t_deep)), (t_leans, .inl (cA, 6, .inl c_t_leans)), (t_rain, .inl (cA, 8, .inl c_t_rain)), (t_when, .inl (cA, 6, .inl y3_t_when)), (t_moss, .inl (cA, 6, .inl c_t_moss)), (t_mossThen, .inl (cA, 6, .inl y2_t_mossThen))] → va_S A s.heap H locs → lv_has ls 3 [(2, .int x2_3), (1, .int x1_2), (0, .ref t)] → k3_96 x2_3 y3_t_when = some (o_c_t_mossThen, o_c_t_when) → W p l e (headSpec wsX7_layWhen rmX7_layWhen).room s m (([.ref t] : List Value).toArray) below meth c H locs 0 0 Q (F0 m 96 ls []) := by
                  intro x2_3 y3_t_when H locs ls hP hD hS hl hM
                  rw [jk3_96] at hM
                  refine lv_aload_n hx hb dX7_layWhen_96 rfl (lv_at hl 2 rfl) ?_
                  refine lv_aload_n hx hb dX7_layWhen_97 rfl (lv_at hl 2 rfl) ?_
                  refine va_get (D := D) (ci := 7) (v := .ref t_mossThen) (C := RX7) (T := TX7) (N := 29) hx hb hts (fun _ h => List.mem_cons_of_mem _ (List.mem_append_right _ (h))) hown hK hP 0 rfl rfl 13 (by decide) (hts (.fieldLink RX7 28 "MossWallModel" "mossThen" "[I") (List.mem_cons_of_mem _ (List.mem_append_left _ (List.mem_append_left _ (List.mem_of_getElem? (i := 1) rfl))))) (fun _ h9 => h9) rfl dX7_layWhen_98 ?_
                  refine lv_aload_n hx hb dX7_layWhen_101 rfl (lv_at hl 2 rfl) ?_
                  refine lv_aload_n hx hb dX7_layWhen_102 rfl (lv_at hl 2 rfl) ?_
                  refine va_get (D := D) (ci := 7) (v := .int t_weekNext) (C := RX7) (T := TX7) (N := 29) hx hb hts (fun _ h => List.mem_cons_of_mem _ (List.mem_append_right _ (h))) hown hK hP 0 rfl rfl 5 (by decide) (hts (.fieldLink RX7 94 "MossWallModel" "weekNext" "I") (List.mem_cons_of_mem _ (List.mem_append_left _ (List.mem_append_left _ (List.mem_of_getElem? (i := 4) rfl))))) (fun _ h9 => h9) rfl dX7_layWhen_103 ?_
                  refine lv_iload_n hx hb dX7_layWhen_106 rfl (lv_at hl 1 rfl) ?_
                  refine lv_iadd hx hb dX7_layWhen_107 ?_
                  obtain ⟨r15, h15, hM⟩ := mw_d1 hM
                  have hPc := hP.sub (ws' := [(t, .inr (7, [.ref t_page, .int t_pageMany, .int t_end, .int t_clauses, .int t_rains, .int t_weekNext, .int t_breaths, .int t_wallsRead, .ref t_kinds, .ref t_deep, .ref t_leans, .ref t_moss, .ref t_rain, .ref t_mossThen, .ref t_when, .int t_needsDone, .int t_seenMany, .ref t_sights, .int t_seedNow, .int t_keptWall, .int t_keptWeek, .int t_keptBreaths, .int t_keptSeen, .ref t_keptKinds, .ref t_keptDeep, .ref t_keptLeans, .ref t_keptMoss, .ref t_keptSights, .long t_hash])), (t_rain, .inl (cA, 8, .inl c_t_rain))]) [0, 4] rfl
                  refine vp_callSi (va_Run.run (va_runV (As := [.int (t_weekNext + x1_2)]) (rest := [.ref t_mossThen, .ref t]) ⟨hx, hb, hml, hown, hts⟩ (kX7_rainOf l D cA t t_page t_kinds t_deep t_leans t_moss t_rain t_mossThen t_when t_sights t_keptKinds t_keptDeep t_keptLeans t_keptMoss t_keptSights t_pageMany t_end t_clauses t_rains t_weekNext t_breaths t_wallsRead t_needsDone t_seenMany t_seedNow t_keptWall t_keptWeek t_keptBreaths t_keptSeen t_hash c_t_rain (t_weekNext + x1_2) r15 h15) (cwV 1 hts gX7_layWhen_X7_rainOf rfl rfl rfl (by decide +kernel) ⟨Nat.le_of_ble_eq_true rfl, Nat.le_of_ble_eq_true rfl⟩) ⟨mw_fbR, va_recv hK hP (ci := 7) (q0 := 0) rfl rfl, mw_puR hPc hE⟩ rfl rfl hl.1 rfl (lv_room (Nat.le_of_ble_eq_true rfl)) dX7_layWhen_108 ⟨Nat.zero_le _, Nat.zero_le _⟩)) (fun v_ e_ => ?_)
                  subst v_
                  obtain ⟨u16_t_mossThen, h16, hM⟩ := mw_d1 hM
                  have hPc := hP.sub (ws' := [(t, .inr (7, [.ref t_page, .int t_pageMany, .int t_end, .int t_clauses, .int t_rains, .int t_weekNext, .int t_breaths, .int t_wallsRead, .ref t_kinds, .ref t_deep, .ref t_leans, .ref t_moss, .ref t_rain, .ref t_mossThen, .ref t_when, .int t_needsDone, .int t_seenMany, .ref t_sights, .int t_seedNow, .int t_keptWall, .int t_keptWeek, .int t_keptBreaths, .int t_keptSeen, .ref t_keptKinds, .ref t_keptDeep, .ref t_keptLeans, .ref t_keptMoss, .ref t_keptSights, .long t_hash])), (t_kinds, .inl (cA, 6, .inl c_t_kinds)), (t_deep, .inl (cA, 6, .inl c_t_deep)), (t_leans, .inl (cA, 6, .inl c_t_leans)), (t_mossThen, .inl (cA, 6, .inl y2_t_mossThen))]) [0, 1, 2, 3, 7] rfl
                  have hDc := hD.sub (ws' := [(t, .inr (7, [.ref t_page, .int t_pageMany, .int t_end, .int t_clauses, .int t_rains, .int t_weekNext, .int t_breaths, .int t_wallsRead, .ref t_kinds, .ref t_deep, .ref t_leans, .ref t_moss, .ref t_rain, .ref t_mossThen, .ref t_when, .int t_needsDone, .int t_seenMany, .ref t_sights, .int t_seedNow, .int t_keptWall, .int t_keptWeek, .int t_keptBreaths, .int t_keptSeen, .ref t_keptKinds, .ref t_keptDeep, .ref t_keptLeans, .ref t_keptMoss, .ref t_keptSights, .long t_hash])), (t_kinds, .inl (cA, 6, .inl c_t_kinds)), (t_deep, .inl (cA, 6, .inl c_t_deep)), (t_leans, .inl (cA, 6, .inl c_t_leans)), (t_mossThen, .inl (cA, 6, .inl y2_t_mossThen))]) [0, 1, 2, 3, 7] (by decide) rfl
                  have hFc := va_free (wc := [(t, .inr (7, [.ref t_page, .int t_pageMany, .int t_end, .int t_clauses, .int t_rains, .int t_weekNext, .int t_breaths, .int t_wallsRead, .ref t_kinds, .ref t_deep, .ref t_leans, .ref t_moss, .ref t_rain, .ref t_mossThen, .ref t_when, .int t_needsDone, .int t_seenMany, .ref t_sights, .int t_seedNow, .int t_keptWall, .int t_keptWeek, .int t_keptBreaths, .int t_keptSeen, .ref t_keptKinds, .ref t_keptDeep, .ref t_keptLeans, .ref t_keptMoss, .ref t_keptSights, .long t_hash])), (t_kinds, .inl (cA, 6, .inl c_t_kinds)), (t_deep, .inl (cA, 6, .inl c_t_deep)), (t_leans, .inl (cA, 6, .inl c_t_leans)), (t_mossThen, .inl (cA, 6, .inl y2_t_mossThen))]) hD hS hA [0, 1, 2, 3, 7] rfl
                  refine va_callv (va_runV (As := [.ref t_mossThen, .int r15]) (rest := []) ⟨hx, hb, hml, hown, hts⟩ (kX7_grow l D cA t t_mossThen t_page t_kinds t_deep t_leans t_moss t_rain t_mossThen t_when t_sights t_keptKinds t_keptDeep t_keptLeans t_keptMoss t_keptSights _ t_pageMany t_end t_clauses t_rains t_weekNext t_breaths t_wallsRead t_needsDone t_seenMany t_seedNow t_keptWall t_keptWeek t_keptBreaths t_keptSeen t_hash c_t_kinds c_t_deep c_t_leans 6 y2_t_mossThen r15 u16_t_mossThen h16) (cwV 2 hts gX7_layWhen_X7_grow rfl rfl rfl (by decide +kernel) ⟨Nat.le_of_ble_eq_true rfl, Nat.le_of_ble_eq_true rfl⟩) ⟨mw_fbW, va_recv hK hP (ci := 7) (q0 := 0) rfl rfl, mw_puW hPc hE hDc⟩ rfl rfl hl.1 rfl (lv_room (Nat.le_of_ble_eq_true rfl)) dX7_layWhen_111 ⟨Nat.zero_le _, Nat.zero_le _⟩) hS (fun q _ h => hFc q h) hFc (fun _ t_ H locs ht_ _ _ hB_ _ hk_ hS => ?_)
                  obtain ⟨hP1, hD1⟩ := hB_
                  rw [ht_] at hP1
                  obtain ⟨hP, hD⟩ := va_join (wr := [(t_rain, .inl (cA, 8, .inl c_t_rain)), (t_when, .inl (cA, 6, .inl y3_t_when)), (t_moss, .inl (cA, 6, .inl c_t_moss))]) (w1 := [(t, .inr (7, [.ref t_page, .int t_pageMany, .int t_end, .int t_clauses, .int t_rains, .int t_weekNext, .int t_breaths, .int t_wallsRead, .ref t_kinds, .ref t_deep, .ref t_leans, .ref t_moss, .ref t_rain, .ref t_mossThen, .ref t_when, .int t_needsDone, .int t_seenMany, .ref t_sights, .int t_seedNow, .int t_keptWall, .int t_keptWeek, .int t_keptBreaths, .int t_keptSeen, .ref t_keptKinds, .ref t_keptDeep, .ref t_keptLeans, .ref t_keptMoss, .ref t_keptSights, .long t_hash])), (t_kinds, .inl (cA, 6, .inl c_t_kinds)), (t_deep, .inl (cA, 6, .inl c_t_deep)), (t_leans, .inl (cA, 6, .inl c_t_leans)), (t_mossThen, .inl (cA, 6, .inl u16_t_mossThen))]) hP hD [0, 1, 2, 3, 7] [4, 5, 6] rfl rfl (by decide) (by decide) hk_ hFc hP1 hD1
                  have hP : va_P D vwCl [(t_rain, .inl (cA, 8, .inl c_t_rain)), (t_when, .inl (cA, 6, .inl y3_t_when)), (t_moss, .inl (cA, 6, .inl c_t_moss)), (t, .inr (7, [.ref t_page, .int t_pageMany, .int t_end, .int t_clauses, .int t_rains, .int t_weekNext, .int t_breaths, .int t_wallsRead, .ref t_kinds, .ref t_deep, .ref t_leans, .ref t_moss, .ref t_rain, .ref t_mossThen, .ref t_when, .int t_needsDone, .int t_seenMany, .ref t_sights, .int t_seedNow, .int t_keptWall, .int t_keptWeek, .int t_keptBreaths, .int t_keptSeen, .ref t_keptKinds, .ref t_keptDeep, .ref t_keptLeans, .ref t_keptMoss, .ref t_keptSights, .long t_hash])), (t_kinds, .inl (cA, 6, .inl c_t_kinds)), (t_deep, .inl (cA, 6, .inl c_t_deep)), (t_leans, .inl (cA, 6, .inl c_t_leans)), (t_mossThen, .inl (cA, 6, .inl u16_t_mossThen))] H := hP
                  have hD : va_D A [(t_rain, .inl (cA, 8, .inl c_t_rain)), (t_when, .inl (cA, 6, .inl y3_t_when)), (t_moss, .inl (cA, 6, .inl c_t_moss)), (t, .inr (7, [.ref t_page, .int t_pageMany, .int t_end, .int t_clauses, .int t_rains, .int t_weekNext, .int t_breaths, .int t_wallsRead, .ref t_kinds, .ref t_deep, .ref t_leans, .ref t_moss, .ref t_rain, .ref t_mossThen, .ref t_when, .int t_needsDone, .int t_seenMany, .ref t_sights, .int t_seedNow, .int t_keptWall, .int t_keptWeek, .int t_keptBreaths, .int t_keptSeen, .ref t_keptKinds, .ref t_keptDeep, .ref t_keptLeans, .ref t_keptMoss, .ref t_keptSights, .long t_hash])), (t_kinds, .inl (cA, 6, .inl c_t_kinds)), (t_deep, .inl (cA, 6, .inl c_t_deep)), (t_leans, .inl (cA, 6, .inl c_t_leans)), (t_mossThen, .inl (cA, 6, .inl u16_t_mossThen))] := hD
                  refine lv_iinc (v := x1_2 + 1) (lv' := [(1, .int (x1_2 + 1)), (2, .int x2_3), (0, .ref t)]) hx hb dX7_layWhen_114 hl (k := 1) rfl (by first | rfl | decide) (by decide) rfl (fun ls hl => ?_)
                  refine lv_goto (tgt := 36) hx hb dX7_layWhen_117 (by decide) ?_
                  have hP := hP.sub (ws' := [(t, .inr (7, [.ref t_page, .int t_pageMany, .int t_end, .int t_clauses, .int t_rains, .int t_weekNext, .int t_breaths, .int t_wallsRead, .ref t_kinds, .ref t_deep, .ref t_leans, .ref t_moss, .ref t_rain, .ref t_mossThen, .ref t_when, .int t_needsDone, .int t_seenMany, .ref t_sights, .int t_seedNow, .int t_keptWall, .int t_keptWeek, .int t_keptBreaths, .int t_keptSeen, .ref t_keptKinds, .ref t_keptDeep, .ref t_keptLeans, .ref t_keptMoss, .ref t_keptSights, .long t_hash])), (t_kinds, .inl (cA, 6, .inl c_t_kinds)), (t_deep, .inl (cA, 6, .inl c_t_deep)), (t_leans, .inl (cA, 6, .inl c_t_leans)), (t_rain, .inl (cA, 8, .inl c_t_rain)), (t_when, .inl (cA, 6, .inl y3_t_when)), (t_moss, .inl (cA, 6, .inl c_t_moss)), (t_mossThen, .inl (cA, 6, .inl u16_t_mossThen))]) [3, 4, 5, 6, 0, 1, 2, 7] rfl
                  have hD := hD.sub (ws' := [(t, .inr (7, [.ref t_page, .int t_pageMany, .int t_end, .int t_clauses, .int t_rains, .int t_weekNext, .int t_breaths, .int t_wallsRead, .ref t_kinds, .ref t_deep, .ref t_leans, .ref t_moss, .ref t_rain, .ref t_mossThen, .ref t_when, .int t_needsDone, .int t_seenMany, .ref t_sights, .int t_seedNow, .int t_keptWall, .int t_keptWeek, .int t_keptBreaths, .int t_keptSeen, .ref t_keptKinds, .ref t_keptDeep, .ref t_keptLeans, .ref t_keptMoss, .ref t_keptSights, .long t_hash])), (t_kinds, .inl (cA, 6, .inl c_t_kinds)), (t_deep, .inl (cA, 6, .inl c_t_deep)), (t_leans, .inl (cA, 6, .inl c_t_leans)), (t_rain, .inl (cA, 8, .inl c_t_rain)), (t_when, .inl (cA, 6, .inl y3_t_when)), (t_moss, .inl (cA, 6, .inl c_t_moss)), (t_mossThen, .inl (cA, 6, .inl u16_t_mossThen))]) [3, 4, 5, 6, 0, 1, 2, 7] (by decide) rfl
                  exact ih2 (x1_2 + 1) u16_t_mossThen y3_t_when _ _ _ hP hD hS (lv_sub hl [0, 2] rfl) hM
              have L3 : ∀ (n3 : Nat) (x2_3 : Int32) (y3_t_when : Nat → Int32) (H : Heap) (locs : List Loc) (ls : Array Slot), va_P D vwCl [(t, .inr (7, [.ref t_page, .int t_pageMany, .int t_end, .int t_clauses, .int t_rains, .int t_weekNext, .int t_breaths, .int t_wallsRead, .ref t_kinds, .ref t_deep, .ref t_leans, .ref t_moss, .ref t_rain, .ref t_mossThen, .ref t_when, .int t_needsDone, .int t_seenMany, .ref t_sights, .int t_seedNow, .int t_keptWall, .int t_keptWeek, .int t_keptBreaths, .int t_keptSeen, .ref t_keptKinds, .ref t_keptDeep, .ref t_keptLeans, .ref t_keptMoss, .ref t_keptSights, .long t_hash])), (t_kinds, .inl (cA, 6, .inl c_t_kinds)), (t_deep, .inl (cA, 6, .inl c_t_deep)), (t_leans, .inl (cA, 6, .inl c_t_leans)), (t_rain, .inl (cA, 8, .inl c_t_rain)), (t_when, .inl (cA, 6, .inl y3_t_when)), (t_moss, .inl (cA, 6, .inl c_t_moss)), (t_mossThen, .inl (cA, 6, .inl y2_t_mossThen))] H → va_D A [(t, .inr (7, [.ref t_page, .int t_pageMany, .int t_end, .int t_clauses, .int t_rains, .int t_weekNext, .int t_breaths, .int t_wallsRead, .ref t_kinds, .ref t_deep, .ref t_leans, .ref t_moss, .ref t_rain, .ref t_mossThen, .ref t_when, .int t_needsDone, .int t_seenMany, .ref t_sights, .int t_seedNow, .int t_keptWall, .int t_keptWeek, .int t_keptBreaths, .int t_keptSeen, .ref t_keptKinds, .ref t_keptDeep, .ref t_keptLeans, .ref t_keptMoss, .ref t_keptSights, .long t_hash])), (t_kinds, .inl (cA, 6, .inl c_t_kinds)), (t_deep, .inl (cA, 6, .inl c_t_deep)), (t_leans, .inl (cA, 6, .inl c_t_leans)), (t_rain, .inl (cA, 8, .inl c_t_rain)), (t_when, .inl (cA, 6, .inl y3_t_when)), (t_moss, .inl (cA, 6, .inl c_t_moss)), (t_mossThen, .inl (cA, 6, .inl y2_t_mossThen))] → va_S A s.heap H locs → lv_has ls 3 [(2, .int x2_3), (1, .int x1_2), (0, .ref t)] → mX7_layWhen_L3 t_clauses c_t_deep x1_2 y2_t_mossThen k3_96 n3 x2_3 y3_t_when = some (o_c_t_mossThen, o_c_t_when) → W p l e (headSpec wsX7_layWhen rmX7_layWhen).room s m (([.ref t] : List Value).toArray) below meth c H locs 0 0 Q (F0 m 44 ls []) := by
                  intro n3
                  induction n3 with
                  | zero =>
                    intro x2_3 y3_t_when H locs ls hP hD hS hl hM
                    rw [mX7_layWhen_L3] at hM
                    exact mw_none hM
                  | succ n3 ih3 =>
                    intro x2_3 y3_t_when H locs ls hP hD hS hl hM
                    rw [mX7_layWhen_L3] at hM
                    refine lv_iload_n hx hb dX7_layWhen_44 rfl (lv_at hl 0 rfl) ?_
                    refine lv_aload_n hx hb dX7_layWhen_45 rfl (lv_at hl 2 rfl) ?_
                    refine va_get (D := D) (ci := 7) (v := .int t_clauses) (C := RX7) (T := TX7) (N := 29) hx hb hts (fun _ h => List.mem_cons_of_mem _ (List.mem_append_right _ (h))) hown hK hP 0 rfl rfl 3 (by decide) (hts (.fieldLink RX7 88 "MossWallModel" "clauses" "I") (List.mem_cons_of_mem _ (List.mem_append_left _ (List.mem_append_left _ (List.mem_of_getElem? (i := 2) rfl))))) (fun _ h9 => h9) rfl dX7_layWhen_46 ?_
                    refine lv_icmp_ge (tgt := 96) hx hb dX7_layWhen_49 (by decide) (fun q5 => ?_) (fun q5 => ?_)
                    · replace hM := mw_t hM q5
                      exact Ek3_96 x2_3 y3_t_when _ _ _ hP hD hS (lv_sub hl [0, 1, 2] rfl) hM
                    · replace hM := mw_f hM q5
                      refine lv_aload_n hx hb dX7_layWhen_52 rfl (lv_at hl 2 rfl) ?_
                      refine va_get (D := D) (ci := 7) (v := .ref t_when) (C := RX7) (T := TX7) (N := 29) hx hb hts (fun _ h => List.mem_cons_of_mem _ (List.mem_append_right _ (h))) hown hK hP 0 rfl rfl 14 (by decide) (hts (.fieldLink RX7 31 "MossWallModel" "when" "[I") (List.mem_cons_of_mem _ (List.mem_append_left _ (List.mem_append_left _ (List.mem_of_getElem? (i := 3) rfl))))) (fun _ h9 => h9) rfl dX7_layWhen_53 ?_
                      refine lv_iload_n hx hb dX7_layWhen_56 rfl (lv_at hl 0 rfl) ?_
                      refine lv_aload_n hx hb dX7_layWhen_57 rfl (lv_at hl 2 rfl) ?_
                      refine va_get (D := D) (ci := 7) (v := .ref t_when) (C := RX7) (T := TX7) (N := 29) hx hb hts (fun _ h => List.mem_cons_of_mem _ (List.mem_append_right _ (h))) hown hK hP 0 rfl rfl 14 (by decide) (hts (.fieldLink RX7 31 "MossWallModel" "when" "[I") (List.mem_cons_of_mem _ (List.mem_append_left _ (List.mem_append_left _ (List.mem_of_getElem? (i := 3) rfl))))) (fun _ h9 => h9) rfl dX7_layWhen_58 ?_
                      refine lv_iload_n hx hb dX7_layWhen_61 rfl (lv_at hl 0 rfl) ?_
                      obtain ⟨e6, h6, hM⟩ := mw_d1 hM
                      refine mw_iald hx hb hK hP 5 0 rfl rfl h6 dX7_layWhen_62 ?_
                      refine lv_iconst (v := (-1)) hx hb dX7_layWhen_63 (by decide) ?_
                      refine lv_icmp_ne (tgt := 83) hx hb dX7_layWhen_64 (by decide) (fun q7 => ?_) (fun q7 => ?_)
                      · replace hM := mw_f hM q7
                        refine lv_aload_n hx hb dX7_layWhen_83 rfl (lv_at hl 2 rfl) ?_
                        refine va_get (D := D) (ci := 7) (v := .ref t_when) (C := RX7) (T := TX7) (N := 29) hx hb hts (fun _ h => List.mem_cons_of_mem _ (List.mem_append_right _ (h))) hown hK hP 0 rfl rfl 14 (by decide) (hts (.fieldLink RX7 31 "MossWallModel" "when" "[I") (List.mem_cons_of_mem _ (List.mem_append_left _ (List.mem_append_left _ (List.mem_of_getElem? (i := 3) rfl))))) (fun _ h9 => h9) rfl dX7_layWhen_84 ?_
                        refine lv_iload_n hx hb dX7_layWhen_87 rfl (lv_at hl 0 rfl) ?_
                        obtain ⟨e8, h8, hM⟩ := mw_d1 hM
                        refine mw_iald hx hb hK hP 5 0 rfl rfl h8 dX7_layWhen_88 ?_
                        obtain ⟨a9_when, h9, hM⟩ := mw_d1 hM
                        refine mw_iast hx hb hK hP hD hS 5 0 rfl rfl h9 dX7_layWhen_89 (fun H locs hP hD hS => ?_)
                        have hP : va_P D vwCl [(t, .inr (7, [.ref t_page, .int t_pageMany, .int t_end, .int t_clauses, .int t_rains, .int t_weekNext, .int t_breaths, .int t_wallsRead, .ref t_kinds, .ref t_deep, .ref t_leans, .ref t_moss, .ref t_rain, .ref t_mossThen, .ref t_when, .int t_needsDone, .int t_seenMany, .ref t_sights, .int t_seedNow, .int t_keptWall, .int t_keptWeek, .int t_keptBreaths, .int t_keptSeen, .ref t_keptKinds, .ref t_keptDeep, .ref t_keptLeans, .ref t_keptMoss, .ref t_keptSights, .long t_hash])), (t_kinds, .inl (cA, 6, .inl c_t_kinds)), (t_deep, .inl (cA, 6, .inl c_t_deep)), (t_leans, .inl (cA, 6, .inl c_t_leans)), (t_rain, .inl (cA, 8, .inl c_t_rain)), (t_when, .inl (cA, 6, .inl a9_when)), (t_moss, .inl (cA, 6, .inl c_t_moss)), (t_mossThen, .inl (cA, 6, .inl y2_t_mossThen))] H := hP
                        have hD : va_D A [(t, .inr (7, [.ref t_page, .int t_pageMany, .int t_end, .int t_clauses, .int t_rains, .int t_weekNext, .int t_breaths, .int t_wallsRead, .ref t_kinds, .ref t_deep, .ref t_leans, .ref t_moss, .ref t_rain, .ref t_mossThen, .ref t_when, .int t_needsDone, .int t_seenMany, .ref t_sights, .int t_seedNow, .int t_keptWall, .int t_keptWeek, .int t_keptBreaths, .int t_keptSeen, .ref t_keptKinds, .ref t_keptDeep, .ref t_keptLeans, .ref t_keptMoss, .ref t_keptSights, .long t_hash])), (t_kinds, .inl (cA, 6, .inl c_t_kinds)), (t_deep, .inl (cA, 6, .inl c_t_deep)), (t_leans, .inl (cA, 6, .inl c_t_leans)), (t_rain, .inl (cA, 8, .inl c_t_rain)), (t_when, .inl (cA, 6, .inl a9_when)), (t_moss, .inl (cA, 6, .inl c_t_moss)), (t_mossThen, .inl (cA, 6, .inl y2_t_mossThen))] := hD
                        refine lv_iinc (v := x2_3 + 1) (lv' := [(2, .int (x2_3 + 1)), (1, .int x1_2), (0, .ref t)]) hx hb dX7_layWhen_90 hl (k := 0) rfl (by first | rfl | decide) (by decide) rfl (fun ls hl => ?_)
                        refine lv_goto (tgt := 44) hx hb dX7_layWhen_93 (by decide) ?_
                        exact ih3 (x2_3 + 1) a9_when _ _ _ hP hD hS (lv_sub hl [0, 1, 2] rfl) hM
                      · replace hM := mw_t hM q7
                        refine lv_aload_n hx hb dX7_layWhen_67 rfl (lv_at hl 2 rfl) ?_
                        refine lv_aload_n hx hb dX7_layWhen_68 rfl (lv_at hl 2 rfl) ?_
                        refine va_get (D := D) (ci := 7) (v := .ref t_mossThen) (C := RX7) (T := TX7) (N := 29) hx hb hts (fun _ h => List.mem_cons_of_mem _ (List.mem_append_right _ (h))) hown hK hP 0 rfl rfl 13 (by decide) (hts (.fieldLink RX7 28 "MossWallModel" "mossThen" "[I") (List.mem_cons_of_mem _ (List.mem_append_left _ (List.mem_append_left _ (List.mem_of_getElem? (i := 1) rfl))))) (fun _ h9 => h9) rfl dX7_layWhen_69 ?_
                        refine lv_iload_n hx hb dX7_layWhen_72 rfl (lv_at hl 0 rfl) ?_
                        obtain ⟨r10, h10, hM⟩ := mw_d1 hM
                        have hPc := hP.sub (ws' := [(t, .inr (7, [.ref t_page, .int t_pageMany, .int t_end, .int t_clauses, .int t_rains, .int t_weekNext, .int t_breaths, .int t_wallsRead, .ref t_kinds, .ref t_deep, .ref t_leans, .ref t_moss, .ref t_rain, .ref t_mossThen, .ref t_when, .int t_needsDone, .int t_seenMany, .ref t_sights, .int t_seedNow, .int t_keptWall, .int t_keptWeek, .int t_keptBreaths, .int t_keptSeen, .ref t_keptKinds, .ref t_keptDeep, .ref t_keptLeans, .ref t_keptMoss, .ref t_keptSights, .long t_hash])), (t_deep, .inl (cA, 6, .inl c_t_deep)), (t_mossThen, .inl (cA, 6, .inl y2_t_mossThen))]) [0, 2, 7] rfl
                        refine vp_callSi (va_Run.run (va_runV (As := [.ref t_mossThen, .int x2_3]) (rest := [.int x2_3, .ref t_when]) ⟨hx, hb, hml, hown, hts⟩ (kX7_isClosed l D cA t t_mossThen t_page t_kinds t_deep t_leans t_moss t_rain t_mossThen t_when t_sights t_keptKinds t_keptDeep t_keptLeans t_keptMoss t_keptSights t_pageMany t_end t_clauses t_rains t_weekNext t_breaths t_wallsRead t_needsDone t_seenMany t_seedNow t_keptWall t_keptWeek t_keptBreaths t_keptSeen t_hash c_t_deep 6 y2_t_mossThen x2_3 r10 h10) (cwV 2 hts gX7_layWhen_X7_isClosed rfl rfl rfl (by decide +kernel) ⟨Nat.le_of_ble_eq_true rfl, Nat.le_of_ble_eq_true rfl⟩) ⟨mw_fbR, va_recv hK hP (ci := 7) (q0 := 0) rfl rfl, mw_puR hPc hE⟩ rfl rfl hl.1 rfl (lv_room (Nat.le_of_ble_eq_true rfl)) dX7_layWhen_73 ⟨Nat.zero_le _, Nat.zero_le _⟩)) (fun v_ e_ => ?_)
                        obtain ⟨e_, b10⟩ := e_
                        subst v_
                        refine lv_if_eq (tgt := 83) hx hb dX7_layWhen_76 (by decide) (fun q11 => ?_) (fun q11 => ?_)
                        · replace hM := mw_t hM q11
                          refine lv_aload_n hx hb dX7_layWhen_83 rfl (lv_at hl 2 rfl) ?_
                          refine va_get (D := D) (ci := 7) (v := .ref t_when) (C := RX7) (T := TX7) (N := 29) hx hb hts (fun _ h => List.mem_cons_of_mem _ (List.mem_append_right _ (h))) hown hK hP 0 rfl rfl 14 (by decide) (hts (.fieldLink RX7 31 "MossWallModel" "when" "[I") (List.mem_cons_of_mem _ (List.mem_append_left _ (List.mem_append_left _ (List.mem_of_getElem? (i := 3) rfl))))) (fun _ h9 => h9) rfl dX7_layWhen_84 ?_
                          refine lv_iload_n hx hb dX7_layWhen_87 rfl (lv_at hl 0 rfl) ?_
                          obtain ⟨e12, h12, hM⟩ := mw_d1 hM
                          refine mw_iald hx hb hK hP 5 0 rfl rfl h12 dX7_layWhen_88 ?_
                          obtain ⟨a13_when, h13, hM⟩ := mw_d1 hM
                          refine mw_iast hx hb hK hP hD hS 5 0 rfl rfl h13 dX7_layWhen_89 (fun H locs hP hD hS => ?_)
                          have hP : va_P D vwCl [(t, .inr (7, [.ref t_page, .int t_pageMany, .int t_end, .int t_clauses, .int t_rains, .int t_weekNext, .int t_breaths, .int t_wallsRead, .ref t_kinds, .ref t_deep, .ref t_leans, .ref t_moss, .ref t_rain, .ref t_mossThen, .ref t_when, .int t_needsDone, .int t_seenMany, .ref t_sights, .int t_seedNow, .int t_keptWall, .int t_keptWeek, .int t_keptBreaths, .int t_keptSeen, .ref t_keptKinds, .ref t_keptDeep, .ref t_keptLeans, .ref t_keptMoss, .ref t_keptSights, .long t_hash])), (t_kinds, .inl (cA, 6, .inl c_t_kinds)), (t_deep, .inl (cA, 6, .inl c_t_deep)), (t_leans, .inl (cA, 6, .inl c_t_leans)), (t_rain, .inl (cA, 8, .inl c_t_rain)), (t_when, .inl (cA, 6, .inl a13_when)), (t_moss, .inl (cA, 6, .inl c_t_moss)), (t_mossThen, .inl (cA, 6, .inl y2_t_mossThen))] H := hP
                          have hD : va_D A [(t, .inr (7, [.ref t_page, .int t_pageMany, .int t_end, .int t_clauses, .int t_rains, .int t_weekNext, .int t_breaths, .int t_wallsRead, .ref t_kinds, .ref t_deep, .ref t_leans, .ref t_moss, .ref t_rain, .ref t_mossThen, .ref t_when, .int t_needsDone, .int t_seenMany, .ref t_sights, .int t_seedNow, .int t_keptWall, .int t_keptWeek, .int t_keptBreaths, .int t_keptSeen, .ref t_keptKinds, .ref t_keptDeep, .ref t_keptLeans, .ref t_keptMoss, .ref t_keptSights, .long t_hash])), (t_kinds, .inl (cA, 6, .inl c_t_kinds)), (t_deep, .inl (cA, 6, .inl c_t_deep)), (t_leans, .inl (cA, 6, .inl c_t_leans)), (t_rain, .inl (cA, 8, .inl c_t_rain)), (t_when, .inl (cA, 6, .inl a13_when)), (t_moss, .inl (cA, 6, .inl c_t_moss)), (t_mossThen, .inl (cA, 6, .inl y2_t_mossThen))] := hD
                          refine lv_iinc (v := x2_3 + 1) (lv' := [(2, .int (x2_3 + 1)), (1, .int x1_2), (0, .ref t)]) hx hb dX7_layWhen_90 hl (k := 0) rfl (by first | rfl | decide) (by decide) rfl (fun ls hl => ?_)
                          refine lv_goto (tgt := 44) hx hb dX7_layWhen_93 (by decide) ?_
                          exact ih3 (x2_3 + 1) a13_when _ _ _ hP hD hS (lv_sub hl [0, 1, 2] rfl) hM
                        · replace hM := mw_f hM q11
                          refine lv_iload_n hx hb dX7_layWhen_79 rfl (lv_at hl 1 rfl) ?_
                          refine lv_goto (tgt := 89) hx hb dX7_layWhen_80 (by decide) ?_
                          obtain ⟨a14_when, h14, hM⟩ := mw_d1 hM
                          refine mw_iast hx hb hK hP hD hS 5 0 rfl rfl h14 dX7_layWhen_89 (fun H locs hP hD hS => ?_)
                          have hP : va_P D vwCl [(t, .inr (7, [.ref t_page, .int t_pageMany, .int t_end, .int t_clauses, .int t_rains, .int t_weekNext, .int t_breaths, .int t_wallsRead, .ref t_kinds, .ref t_deep, .ref t_leans, .ref t_moss, .ref t_rain, .ref t_mossThen, .ref t_when, .int t_needsDone, .int t_seenMany, .ref t_sights, .int t_seedNow, .int t_keptWall, .int t_keptWeek, .int t_keptBreaths, .int t_keptSeen, .ref t_keptKinds, .ref t_keptDeep, .ref t_keptLeans, .ref t_keptMoss, .ref t_keptSights, .long t_hash])), (t_kinds, .inl (cA, 6, .inl c_t_kinds)), (t_deep, .inl (cA, 6, .inl c_t_deep)), (t_leans, .inl (cA, 6, .inl c_t_leans)), (t_rain, .inl (cA, 8, .inl c_t_rain)), (t_when, .inl (cA, 6, .inl a14_when)), (t_moss, .inl (cA, 6, .inl c_t_moss)), (t_mossThen, .inl (cA, 6, .inl y2_t_mossThen))] H := hP
                          have hD : va_D A [(t, .inr (7, [.ref t_page, .int t_pageMany, .int t_end, .int t_clauses, .int t_rains, .int t_weekNext, .int t_breaths, .int t_wallsRead, .ref t_kinds, .ref t_deep, .ref t_leans, .ref t_moss, .ref t_rain, .ref t_mossThen, .ref t_when, .int t_needsDone, .int t_seenMany, .ref t_sights, .int t_seedNow, .int t_keptWall, .int t_keptWeek, .int t_keptBreaths, .int t_keptSeen, .ref t_keptKinds, .ref t_keptDeep, .ref t_keptLeans, .ref t_keptMoss, .ref t_keptSights, .long t_hash])), (t_kinds, .inl (cA, 6, .inl c_t_kinds)), (t_deep, .inl (cA, 6, .inl c_t_deep)), (t_leans, .inl (cA, 6, .inl c_t_leans)), (t_rain, .inl (cA, 8, .inl c_t_rain)), (t_when, .inl (cA, 6, .inl a14_when)), (t_moss, .inl (cA, 6, .inl c_t_moss)), (t_mossThen, .inl (cA, 6, .inl y2_t_mossThen))] := hD
                          refine lv_iinc (v := x2_3 + 1) (lv' := [(2, .int (x2_3 + 1)), (1, .int x1_2), (0, .ref t)]) hx hb dX7_layWhen_90 hl (k := 0) rfl (by first | rfl | decide) (by decide) rfl (fun ls hl => ?_)
                          refine lv_goto (tgt := 44) hx hb dX7_layWhen_93 (by decide) ?_
                          exact ih3 (x2_3 + 1) a14_when _ _ _ hP hD hS (lv_sub hl [0, 1, 2] rfl) hM
              exact L3 300 0 y2_t_when _ _ _ hP hD hS hl (by rw [jk3_96]; exact hM)
      exact L2 300 0 u1_t_mossThen y1_t_when _ _ _ hP hD hS hl (by rw [jk2_120]; exact hM)
  have L1 : ∀ (n1 : Nat) (x1_1 : Int32) (y1_t_when : Nat → Int32) (H : Heap) (locs : List Loc) (ls : Array Slot), va_P D vwCl [(t, .inr (7, [.ref t_page, .int t_pageMany, .int t_end, .int t_clauses, .int t_rains, .int t_weekNext, .int t_breaths, .int t_wallsRead, .ref t_kinds, .ref t_deep, .ref t_leans, .ref t_moss, .ref t_rain, .ref t_mossThen, .ref t_when, .int t_needsDone, .int t_seenMany, .ref t_sights, .int t_seedNow, .int t_keptWall, .int t_keptWeek, .int t_keptBreaths, .int t_keptSeen, .ref t_keptKinds, .ref t_keptDeep, .ref t_keptLeans, .ref t_keptMoss, .ref t_keptSights, .long t_hash])), (t_kinds, .inl (cA, 6, .inl c_t_kinds)), (t_deep, .inl (cA, 6, .inl c_t_deep)), (t_leans, .inl (cA, 6, .inl c_t_leans)), (t_rain, .inl (cA, 8, .inl c_t_rain)), (t_when, .inl (cA, 6, .inl y1_t_when)), (t_moss, .inl (cA, 6, .inl c_t_moss)), (t_mossThen, .inl (cA, 6, .inl u1_t_mossThen))] H → va_D A [(t, .inr (7, [.ref t_page, .int t_pageMany, .int t_end, .int t_clauses, .int t_rains, .int t_weekNext, .int t_breaths, .int t_wallsRead, .ref t_kinds, .ref t_deep, .ref t_leans, .ref t_moss, .ref t_rain, .ref t_mossThen, .ref t_when, .int t_needsDone, .int t_seenMany, .ref t_sights, .int t_seedNow, .int t_keptWall, .int t_keptWeek, .int t_keptBreaths, .int t_keptSeen, .ref t_keptKinds, .ref t_keptDeep, .ref t_keptLeans, .ref t_keptMoss, .ref t_keptSights, .long t_hash])), (t_kinds, .inl (cA, 6, .inl c_t_kinds)), (t_deep, .inl (cA, 6, .inl c_t_deep)), (t_leans, .inl (cA, 6, .inl c_t_leans)), (t_rain, .inl (cA, 8, .inl c_t_rain)), (t_when, .inl (cA, 6, .inl y1_t_when)), (t_moss, .inl (cA, 6, .inl c_t_moss)), (t_mossThen, .inl (cA, 6, .inl u1_t_mossThen))] → va_S A s.heap H locs → lv_has ls 3 [(1, .int x1_1), (0, .ref t)] → mX7_layWhen_L1 t_clauses k1_34 n1 x1_1 y1_t_when = some (o_c_t_mossThen, o_c_t_when) → W p l e (headSpec wsX7_layWhen rmX7_layWhen).room s m (([.ref t] : List Value).toArray) below meth c H locs 0 0 Q (F0 m 13 ls []) := by
      intro n1
      induction n1 with
      | zero =>
        intro x1_1 y1_t_when H locs ls hP hD hS hl hM
        rw [mX7_layWhen_L1] at hM
        exact mw_none hM
      | succ n1 ih1 =>
        intro x1_1 y1_t_when H locs ls hP hD hS hl hM
        rw [mX7_layWhen_L1] at hM
        refine lv_iload_n hx hb dX7_layWhen_13 rfl (lv_at hl 0 rfl) ?_
        refine lv_aload_n hx hb dX7_layWhen_14 rfl (lv_at hl 1 rfl) ?_
        refine va_get (D := D) (ci := 7) (v := .int t_clauses) (C := RX7) (T := TX7) (N := 29) hx hb hts (fun _ h => List.mem_cons_of_mem _ (List.mem_append_right _ (h))) hown hK hP 0 rfl rfl 3 (by decide) (hts (.fieldLink RX7 88 "MossWallModel" "clauses" "I") (List.mem_cons_of_mem _ (List.mem_append_left _ (List.mem_append_left _ (List.mem_of_getElem? (i := 2) rfl))))) (fun _ h9 => h9) rfl dX7_layWhen_15 ?_
        refine lv_icmp_ge (tgt := 34) hx hb dX7_layWhen_18 (by decide) (fun q2 => ?_) (fun q2 => ?_)
        · replace hM := mw_t hM q2
          exact Ek1_34 x1_1 y1_t_when _ _ _ hP hD hS (lv_sub hl [0, 1] rfl) hM
        · replace hM := mw_f hM q2
          refine lv_aload_n hx hb dX7_layWhen_21 rfl (lv_at hl 1 rfl) ?_
          refine va_get (D := D) (ci := 7) (v := .ref t_when) (C := RX7) (T := TX7) (N := 29) hx hb hts (fun _ h => List.mem_cons_of_mem _ (List.mem_append_right _ (h))) hown hK hP 0 rfl rfl 14 (by decide) (hts (.fieldLink RX7 31 "MossWallModel" "when" "[I") (List.mem_cons_of_mem _ (List.mem_append_left _ (List.mem_append_left _ (List.mem_of_getElem? (i := 3) rfl))))) (fun _ h9 => h9) rfl dX7_layWhen_22 ?_
          refine lv_iload_n hx hb dX7_layWhen_25 rfl (lv_at hl 0 rfl) ?_
          refine lv_iconst (v := (-1)) hx hb dX7_layWhen_26 (by decide) ?_
          obtain ⟨a3_when, h3, hM⟩ := mw_d1 hM
          refine mw_iast hx hb hK hP hD hS 5 0 rfl rfl h3 dX7_layWhen_27 (fun H locs hP hD hS => ?_)
          have hP : va_P D vwCl [(t, .inr (7, [.ref t_page, .int t_pageMany, .int t_end, .int t_clauses, .int t_rains, .int t_weekNext, .int t_breaths, .int t_wallsRead, .ref t_kinds, .ref t_deep, .ref t_leans, .ref t_moss, .ref t_rain, .ref t_mossThen, .ref t_when, .int t_needsDone, .int t_seenMany, .ref t_sights, .int t_seedNow, .int t_keptWall, .int t_keptWeek, .int t_keptBreaths, .int t_keptSeen, .ref t_keptKinds, .ref t_keptDeep, .ref t_keptLeans, .ref t_keptMoss, .ref t_keptSights, .long t_hash])), (t_kinds, .inl (cA, 6, .inl c_t_kinds)), (t_deep, .inl (cA, 6, .inl c_t_deep)), (t_leans, .inl (cA, 6, .inl c_t_leans)), (t_rain, .inl (cA, 8, .inl c_t_rain)), (t_when, .inl (cA, 6, .inl a3_when)), (t_moss, .inl (cA, 6, .inl c_t_moss)), (t_mossThen, .inl (cA, 6, .inl u1_t_mossThen))] H := hP
          have hD : va_D A [(t, .inr (7, [.ref t_page, .int t_pageMany, .int t_end, .int t_clauses, .int t_rains, .int t_weekNext, .int t_breaths, .int t_wallsRead, .ref t_kinds, .ref t_deep, .ref t_leans, .ref t_moss, .ref t_rain, .ref t_mossThen, .ref t_when, .int t_needsDone, .int t_seenMany, .ref t_sights, .int t_seedNow, .int t_keptWall, .int t_keptWeek, .int t_keptBreaths, .int t_keptSeen, .ref t_keptKinds, .ref t_keptDeep, .ref t_keptLeans, .ref t_keptMoss, .ref t_keptSights, .long t_hash])), (t_kinds, .inl (cA, 6, .inl c_t_kinds)), (t_deep, .inl (cA, 6, .inl c_t_deep)), (t_leans, .inl (cA, 6, .inl c_t_leans)), (t_rain, .inl (cA, 8, .inl c_t_rain)), (t_when, .inl (cA, 6, .inl a3_when)), (t_moss, .inl (cA, 6, .inl c_t_moss)), (t_mossThen, .inl (cA, 6, .inl u1_t_mossThen))] := hD
          refine lv_iinc (v := x1_1 + 1) (lv' := [(1, .int (x1_1 + 1)), (0, .ref t)]) hx hb dX7_layWhen_28 hl (k := 0) rfl (by first | rfl | decide) (by decide) rfl (fun ls hl => ?_)
          refine lv_goto (tgt := 13) hx hb dX7_layWhen_31 (by decide) ?_
          exact ih1 (x1_1 + 1) a3_when _ _ _ hP hD hS (lv_sub hl [0, 1] rfl) hM
  exact L1 300 0 c_t_when _ _ _ hP hD hS hl (by rw [jk1_34]; exact hM)
def mX7_whenOf (t_clauses : Int32) (t_rains : Int32) (t_weekNext : Int32) (c_t_kinds : Nat → Int32) (c_t_deep : Nat → Int32) (c_t_leans : Nat → Int32) (c_t_moss : Nat → Int32) (c_t_rain : Nat → Int32) (c_t_mossThen : Nat → Int32) (c_t_when : Nat → Int32) (p1 : Int32) : Option (Int32 × (Nat → Int32) × (Nat → Int32)) :=
  mw_b2 (mX7_layWhen t_clauses t_rains t_weekNext c_t_kinds c_t_deep c_t_leans c_t_moss c_t_rain c_t_mossThen c_t_when) fun u1_t_mossThen u1_t_when => (mw_rd u1_t_when 6 p1).bind fun e2 => some (e2, u1_t_mossThen, u1_t_when)
abbrev rmX7_whenOf : Room := ({ frames := 4, cells := 0, slots := 0, locals := 93 } : Room)
set_option maxHeartbeats 4000000 in
set_option maxRecDepth 100000 in
theorem kX7_whenOf (l : Launch) (D : va_G) (cA : ClassId) (t t_page t_kinds t_deep t_leans t_moss t_rain t_mossThen t_when t_sights t_keptKinds t_keptDeep t_keptLeans t_keptMoss t_keptSights : Nat) (sz : Nat) (t_pageMany : Int32) (t_end : Int32) (t_clauses : Int32) (t_rains : Int32) (t_weekNext : Int32) (t_breaths : Int32) (t_wallsRead : Int32) (t_needsDone : Int32) (t_seenMany : Int32) (t_seedNow : Int32) (t_keptWall : Int32) (t_keptWeek : Int32) (t_keptBreaths : Int32) (t_keptSeen : Int32) (t_hash : Int64) (c_t_kinds : Nat → Int32) (c_t_deep : Nat → Int32) (c_t_leans : Nat → Int32) (c_t_moss : Nat → Int32) (c_t_rain : Nat → Int32) (c_t_mossThen : Nat → Int32) (c_t_when : Nat → Int32) (p1 : Int32) (r : Int32) (o_c_t_mossThen : Nat → Int32) (o_c_t_when : Nat → Int32) (hM : mX7_whenOf t_clauses t_rains t_weekNext c_t_kinds c_t_deep c_t_leans c_t_moss c_t_rain c_t_mossThen c_t_when p1 = some (r, o_c_t_mossThen, o_c_t_when)) : Met l yX7_whenOf wsX7_whenOf rmX7_whenOf (va_Pc [.ref t, .int p1] (fun U => U.heap.size = sz ∧ va_P D vwCl [(t, .inr (7, [.ref t_page, .int t_pageMany, .int t_end, .int t_clauses, .int t_rains, .int t_weekNext, .int t_breaths, .int t_wallsRead, .ref t_kinds, .ref t_deep, .ref t_leans, .ref t_moss, .ref t_rain, .ref t_mossThen, .ref t_when, .int t_needsDone, .int t_seenMany, .ref t_sights, .int t_seedNow, .int t_keptWall, .int t_keptWeek, .int t_keptBreaths, .int t_keptSeen, .ref t_keptKinds, .ref t_keptDeep, .ref t_keptLeans, .ref t_keptMoss, .ref t_keptSights, .long t_hash])), (t_kinds, .inl (cA, 6, .inl c_t_kinds)), (t_deep, .inl (cA, 6, .inl c_t_deep)), (t_leans, .inl (cA, 6, .inl c_t_leans)), (t_moss, .inl (cA, 6, .inl c_t_moss)), (t_rain, .inl (cA, 8, .inl c_t_rain)), (t_mossThen, .inl (cA, 6, .inl c_t_mossThen)), (t_when, .inl (cA, 6, .inl c_t_when))] U.heap ∧ mw_ev D cA U ∧ va_D (fun _ => True) [(t, .inr (7, [.ref t_page, .int t_pageMany, .int t_end, .int t_clauses, .int t_rains, .int t_weekNext, .int t_breaths, .int t_wallsRead, .ref t_kinds, .ref t_deep, .ref t_leans, .ref t_moss, .ref t_rain, .ref t_mossThen, .ref t_when, .int t_needsDone, .int t_seenMany, .ref t_sights, .int t_seedNow, .int t_keptWall, .int t_keptWeek, .int t_keptBreaths, .int t_keptSeen, .ref t_keptKinds, .ref t_keptDeep, .ref t_keptLeans, .ref t_keptMoss, .ref t_keptSights, .long t_hash])), (t_kinds, .inl (cA, 6, .inl c_t_kinds)), (t_deep, .inl (cA, 6, .inl c_t_deep)), (t_leans, .inl (cA, 6, .inl c_t_leans)), (t_moss, .inl (cA, 6, .inl c_t_moss)), (t_rain, .inl (cA, 8, .inl c_t_rain)), (t_mossThen, .inl (cA, 6, .inl c_t_mossThen)), (t_when, .inl (cA, 6, .inl c_t_when))])) (va_Qi (fun (v : Int32) (_ : Unit) => v = r) (fun (_ : Unit) w_ => va_P D vwCl [(t, .inr (7, [.ref t_page, .int t_pageMany, .int t_end, .int t_clauses, .int t_rains, .int t_weekNext, .int t_breaths, .int t_wallsRead, .ref t_kinds, .ref t_deep, .ref t_leans, .ref t_moss, .ref t_rain, .ref t_mossThen, .ref t_when, .int t_needsDone, .int t_seenMany, .ref t_sights, .int t_seedNow, .int t_keptWall, .int t_keptWeek, .int t_keptBreaths, .int t_keptSeen, .ref t_keptKinds, .ref t_keptDeep, .ref t_keptLeans, .ref t_keptMoss, .ref t_keptSights, .long t_hash])), (t_kinds, .inl (cA, 6, .inl c_t_kinds)), (t_deep, .inl (cA, 6, .inl c_t_deep)), (t_leans, .inl (cA, 6, .inl c_t_leans)), (t_moss, .inl (cA, 6, .inl c_t_moss)), (t_rain, .inl (cA, 8, .inl c_t_rain)), (t_mossThen, .inl (cA, 6, .inl o_c_t_mossThen)), (t_when, .inl (cA, 6, .inl o_c_t_when))] w_.heap ∧ va_D (va_A [(t, .inr (7, [.ref t_page, .int t_pageMany, .int t_end, .int t_clauses, .int t_rains, .int t_weekNext, .int t_breaths, .int t_wallsRead, .ref t_kinds, .ref t_deep, .ref t_leans, .ref t_moss, .ref t_rain, .ref t_mossThen, .ref t_when, .int t_needsDone, .int t_seenMany, .ref t_sights, .int t_seedNow, .int t_keptWall, .int t_keptWeek, .int t_keptBreaths, .int t_keptSeen, .ref t_keptKinds, .ref t_keptDeep, .ref t_keptLeans, .ref t_keptMoss, .ref t_keptSights, .long t_hash])), (t_kinds, .inl (cA, 6, .inl c_t_kinds)), (t_deep, .inl (cA, 6, .inl c_t_deep)), (t_leans, .inl (cA, 6, .inl c_t_leans)), (t_moss, .inl (cA, 6, .inl c_t_moss)), (t_rain, .inl (cA, 8, .inl c_t_rain)), (t_mossThen, .inl (cA, 6, .inl c_t_mossThen)), (t_when, .inl (cA, 6, .inl c_t_when))] sz) [(t, .inr (7, [.ref t_page, .int t_pageMany, .int t_end, .int t_clauses, .int t_rains, .int t_weekNext, .int t_breaths, .int t_wallsRead, .ref t_kinds, .ref t_deep, .ref t_leans, .ref t_moss, .ref t_rain, .ref t_mossThen, .ref t_when, .int t_needsDone, .int t_seenMany, .ref t_sights, .int t_seedNow, .int t_keptWall, .int t_keptWeek, .int t_keptBreaths, .int t_keptSeen, .ref t_keptKinds, .ref t_keptDeep, .ref t_keptLeans, .ref t_keptMoss, .ref t_keptSights, .long t_hash])), (t_kinds, .inl (cA, 6, .inl c_t_kinds)), (t_deep, .inl (cA, 6, .inl c_t_deep)), (t_leans, .inl (cA, 6, .inl c_t_leans)), (t_moss, .inl (cA, 6, .inl c_t_moss)), (t_rain, .inl (cA, 8, .inl c_t_rain)), (t_mossThen, .inl (cA, 6, .inl o_c_t_mossThen)), (t_when, .inl (cA, 6, .inl o_c_t_when))]) (va_A [(t, .inr (7, [.ref t_page, .int t_pageMany, .int t_end, .int t_clauses, .int t_rains, .int t_weekNext, .int t_breaths, .int t_wallsRead, .ref t_kinds, .ref t_deep, .ref t_leans, .ref t_moss, .ref t_rain, .ref t_mossThen, .ref t_when, .int t_needsDone, .int t_seenMany, .ref t_sights, .int t_seedNow, .int t_keptWall, .int t_keptWeek, .int t_keptBreaths, .int t_keptSeen, .ref t_keptKinds, .ref t_keptDeep, .ref t_keptLeans, .ref t_keptMoss, .ref t_keptSights, .long t_hash])), (t_kinds, .inl (cA, 6, .inl c_t_kinds)), (t_deep, .inl (cA, 6, .inl c_t_deep)), (t_leans, .inl (cA, 6, .inl c_t_leans)), (t_moss, .inl (cA, 6, .inl c_t_moss)), (t_rain, .inl (cA, 8, .inl c_t_rain)), (t_mossThen, .inl (cA, 6, .inl c_t_mossThen)), (t_when, .inl (cA, 6, .inl c_t_when))] sz)) 0 0 (va_A [(t, .inr (7, [.ref t_page, .int t_pageMany, .int t_end, .int t_clauses, .int t_rains, .int t_weekNext, .int t_breaths, .int t_wallsRead, .ref t_kinds, .ref t_deep, .ref t_leans, .ref t_moss, .ref t_rain, .ref t_mossThen, .ref t_when, .int t_needsDone, .int t_seenMany, .ref t_sights, .int t_seedNow, .int t_keptWall, .int t_keptWeek, .int t_keptBreaths, .int t_keptSeen, .ref t_keptKinds, .ref t_keptDeep, .ref t_keptLeans, .ref t_keptMoss, .ref t_keptSights, .long t_hash])), (t_kinds, .inl (cA, 6, .inl c_t_kinds)), (t_deep, .inl (cA, 6, .inl c_t_deep)), (t_leans, .inl (cA, 6, .inl c_t_leans)), (t_moss, .inl (cA, 6, .inl c_t_moss)), (t_rain, .inl (cA, 8, .inl c_t_rain)), (t_mossThen, .inl (cA, 6, .inl c_t_mossThen)), (t_when, .inl (cA, 6, .inl c_t_when))] sz) := by
  unfold mX7_whenOf at hM
  refine Met.ofW (cc := cX7_whenOf) (maxL := 2) (ret := (some .int)) (by decide) rfl ?_
  intro p e s m args below meth c s₁ B hml hv
  obtain ⟨rfl, hsz, hP, hE, hD0⟩ := hv
  have hx := B.exec
  have hb := B.bytes
  have hr := B.returns
  have hts := atoms_spec (ws := wsX7_whenOf) B.pre
  have hown : s.vm.findClass RX7 = some m.cls := findClass_of_methodNamed B.named
  have hlocks := B.notSynchronized
  have hK := hE.1
  subst hsz
  have hD := hD0.self (sz := s.heap.size)
  generalize hAe : va_A [(t, .inr (7, [.ref t_page, .int t_pageMany, .int t_end, .int t_clauses, .int t_rains, .int t_weekNext, .int t_breaths, .int t_wallsRead, .ref t_kinds, .ref t_deep, .ref t_leans, .ref t_moss, .ref t_rain, .ref t_mossThen, .ref t_when, .int t_needsDone, .int t_seenMany, .ref t_sights, .int t_seedNow, .int t_keptWall, .int t_keptWeek, .int t_keptBreaths, .int t_keptSeen, .ref t_keptKinds, .ref t_keptDeep, .ref t_keptLeans, .ref t_keptMoss, .ref t_keptSights, .long t_hash])), (t_kinds, .inl (cA, 6, .inl c_t_kinds)), (t_deep, .inl (cA, 6, .inl c_t_deep)), (t_leans, .inl (cA, 6, .inl c_t_leans)), (t_moss, .inl (cA, 6, .inl c_t_moss)), (t_rain, .inl (cA, 8, .inl c_t_rain)), (t_mossThen, .inl (cA, 6, .inl c_t_mossThen)), (t_when, .inl (cA, 6, .inl c_t_when))] s.heap.size = A at hD ⊢
  have hA : ∀ q : Nat, s.heap.size ≤ q → A q := fun q h => by rw [← hAe]; exact Or.inr h
  have hS : va_S A s.heap s.heap [] := va_S.rf
  have hl := lv_entry ([.ref t, .int p1]) (n := 2) (Nat.le_of_ble_eq_true rfl)
  rw [lg_entry_eq]
  generalize (lg_sl ([.ref t, .int p1]) ++ List.replicate (2 - (lg_sl ([.ref t, .int p1])).length) Slot.unset).toArray = ls at hl ⊢
  have hl : lv_has ls 2 [(0, .ref t), (1, .int p1)] := hl
  refine mw_q (P := fun Q => W p l e (headSpec wsX7_whenOf rmX7_whenOf).room s m (([.ref t, .int p1] : List Value).toArray) below meth c s.heap [] 0 0 Q (F0 m 0 ls [])) (fun Q hQ => ?_)
  refine lv_aload_n hx hb dX7_whenOf_0 rfl (lv_at hl 0 rfl) ?_
  obtain ⟨u1_t_mossThen, u1_t_when, h1, hM⟩ := mw_d2 hM
  have hPc := hP.sub (ws' := [(t, .inr (7, [.ref t_page, .int t_pageMany, .int t_end, .int t_clauses, .int t_rains, .int t_weekNext, .int t_breaths, .int t_wallsRead, .ref t_kinds, .ref t_deep, .ref t_leans, .ref t_moss, .ref t_rain, .ref t_mossThen, .ref t_when, .int t_needsDone, .int t_seenMany, .ref t_sights, .int t_seedNow, .int t_keptWall, .int t_keptWeek, .int t_keptBreaths, .int t_keptSeen, .ref t_keptKinds, .ref t_keptDeep, .ref t_keptLeans, .ref t_keptMoss, .ref t_keptSights, .long t_hash])), (t_kinds, .inl (cA, 6, .inl c_t_kinds)), (t_deep, .inl (cA, 6, .inl c_t_deep)), (t_leans, .inl (cA, 6, .inl c_t_leans)), (t_moss, .inl (cA, 6, .inl c_t_moss)), (t_rain, .inl (cA, 8, .inl c_t_rain)), (t_mossThen, .inl (cA, 6, .inl c_t_mossThen)), (t_when, .inl (cA, 6, .inl c_t_when))]) [0, 1, 2, 3, 4, 5, 6, 7] rfl
  have hDc := hD.sub (ws' := [(t, .inr (7, [.ref t_page, .int t_pageMany, .int t_end, .int t_clauses, .int t_rains, .int t_weekNext, .int t_breaths, .int t_wallsRead, .ref t_kinds, .ref t_deep, .ref t_leans, .ref t_moss, .ref t_rain, .ref t_mossThen, .ref t_when, .int t_needsDone, .int t_seenMany, .ref t_sights, .int t_seedNow, .int t_keptWall, .int t_keptWeek, .int t_keptBreaths, .int t_keptSeen, .ref t_keptKinds, .ref t_keptDeep, .ref t_keptLeans, .ref t_keptMoss, .ref t_keptSights, .long t_hash])), (t_kinds, .inl (cA, 6, .inl c_t_kinds)), (t_deep, .inl (cA, 6, .inl c_t_deep)), (t_leans, .inl (cA, 6, .inl c_t_leans)), (t_moss, .inl (cA, 6, .inl c_t_moss)), (t_rain, .inl (cA, 8, .inl c_t_rain)), (t_mossThen, .inl (cA, 6, .inl c_t_mossThen)), (t_when, .inl (cA, 6, .inl c_t_when))]) [0, 1, 2, 3, 4, 5, 6, 7] (by decide) rfl
  have hFc := va_free (wc := [(t, .inr (7, [.ref t_page, .int t_pageMany, .int t_end, .int t_clauses, .int t_rains, .int t_weekNext, .int t_breaths, .int t_wallsRead, .ref t_kinds, .ref t_deep, .ref t_leans, .ref t_moss, .ref t_rain, .ref t_mossThen, .ref t_when, .int t_needsDone, .int t_seenMany, .ref t_sights, .int t_seedNow, .int t_keptWall, .int t_keptWeek, .int t_keptBreaths, .int t_keptSeen, .ref t_keptKinds, .ref t_keptDeep, .ref t_keptLeans, .ref t_keptMoss, .ref t_keptSights, .long t_hash])), (t_kinds, .inl (cA, 6, .inl c_t_kinds)), (t_deep, .inl (cA, 6, .inl c_t_deep)), (t_leans, .inl (cA, 6, .inl c_t_leans)), (t_moss, .inl (cA, 6, .inl c_t_moss)), (t_rain, .inl (cA, 8, .inl c_t_rain)), (t_mossThen, .inl (cA, 6, .inl c_t_mossThen)), (t_when, .inl (cA, 6, .inl c_t_when))]) hD hS hA [0, 1, 2, 3, 4, 5, 6, 7] rfl
  refine va_callv (va_runV (As := []) (rest := []) ⟨hx, hb, hml, hown, hts⟩ (kX7_layWhen l D cA t t_page t_kinds t_deep t_leans t_moss t_rain t_mossThen t_when t_sights t_keptKinds t_keptDeep t_keptLeans t_keptMoss t_keptSights _ t_pageMany t_end t_clauses t_rains t_weekNext t_breaths t_wallsRead t_needsDone t_seenMany t_seedNow t_keptWall t_keptWeek t_keptBreaths t_keptSeen t_hash c_t_kinds c_t_deep c_t_leans c_t_moss c_t_rain c_t_mossThen c_t_when u1_t_mossThen u1_t_when h1) (cwV 0 hts gX7_whenOf_X7_layWhen rfl rfl rfl (by decide +kernel) ⟨Nat.le_of_ble_eq_true rfl, Nat.le_of_ble_eq_true rfl⟩) ⟨mw_fbW, va_recv hK hP (ci := 7) (q0 := 0) rfl rfl, mw_puW hPc hE hDc⟩ rfl rfl hl.1 rfl (lv_room (Nat.le_of_ble_eq_true rfl)) dX7_whenOf_1 ⟨Nat.zero_le _, Nat.zero_le _⟩) hS (fun q _ h => hFc q h) hFc (fun _ t_ H locs ht_ _ _ hB_ _ hk_ hS => ?_)
  obtain ⟨hP1, hD1⟩ := hB_
  rw [ht_] at hP1
  obtain ⟨hP, hD⟩ := va_join (wr := []) (w1 := [(t, .inr (7, [.ref t_page, .int t_pageMany, .int t_end, .int t_clauses, .int t_rains, .int t_weekNext, .int t_breaths, .int t_wallsRead, .ref t_kinds, .ref t_deep, .ref t_leans, .ref t_moss, .ref t_rain, .ref t_mossThen, .ref t_when, .int t_needsDone, .int t_seenMany, .ref t_sights, .int t_seedNow, .int t_keptWall, .int t_keptWeek, .int t_keptBreaths, .int t_keptSeen, .ref t_keptKinds, .ref t_keptDeep, .ref t_keptLeans, .ref t_keptMoss, .ref t_keptSights, .long t_hash])), (t_kinds, .inl (cA, 6, .inl c_t_kinds)), (t_deep, .inl (cA, 6, .inl c_t_deep)), (t_leans, .inl (cA, 6, .inl c_t_leans)), (t_moss, .inl (cA, 6, .inl c_t_moss)), (t_rain, .inl (cA, 8, .inl c_t_rain)), (t_mossThen, .inl (cA, 6, .inl u1_t_mossThen)), (t_when, .inl (cA, 6, .inl u1_t_when))]) hP hD [0, 1, 2, 3, 4, 5, 6, 7] [] rfl rfl (by decide) (by decide) hk_ hFc hP1 hD1
  have hP : va_P D vwCl [(t, .inr (7, [.ref t_page, .int t_pageMany, .int t_end, .int t_clauses, .int t_rains, .int t_weekNext, .int t_breaths, .int t_wallsRead, .ref t_kinds, .ref t_deep, .ref t_leans, .ref t_moss, .ref t_rain, .ref t_mossThen, .ref t_when, .int t_needsDone, .int t_seenMany, .ref t_sights, .int t_seedNow, .int t_keptWall, .int t_keptWeek, .int t_keptBreaths, .int t_keptSeen, .ref t_keptKinds, .ref t_keptDeep, .ref t_keptLeans, .ref t_keptMoss, .ref t_keptSights, .long t_hash])), (t_kinds, .inl (cA, 6, .inl c_t_kinds)), (t_deep, .inl (cA, 6, .inl c_t_deep)), (t_leans, .inl (cA, 6, .inl c_t_leans)), (t_moss, .inl (cA, 6, .inl c_t_moss)), (t_rain, .inl (cA, 8, .inl c_t_rain)), (t_mossThen, .inl (cA, 6, .inl u1_t_mossThen)), (t_when, .inl (cA, 6, .inl u1_t_when))] H := hP
  have hD : va_D A [(t, .inr (7, [.ref t_page, .int t_pageMany, .int t_end, .int t_clauses, .int t_rains, .int t_weekNext, .int t_breaths, .int t_wallsRead, .ref t_kinds, .ref t_deep, .ref t_leans, .ref t_moss, .ref t_rain, .ref t_mossThen, .ref t_when, .int t_needsDone, .int t_seenMany, .ref t_sights, .int t_seedNow, .int t_keptWall, .int t_keptWeek, .int t_keptBreaths, .int t_keptSeen, .ref t_keptKinds, .ref t_keptDeep, .ref t_keptLeans, .ref t_keptMoss, .ref t_keptSights, .long t_hash])), (t_kinds, .inl (cA, 6, .inl c_t_kinds)), (t_deep, .inl (cA, 6, .inl c_t_deep)), (t_leans, .inl (cA, 6, .inl c_t_leans)), (t_moss, .inl (cA, 6, .inl c_t_moss)), (t_rain, .inl (cA, 8, .inl c_t_rain)), (t_mossThen, .inl (cA, 6, .inl u1_t_mossThen)), (t_when, .inl (cA, 6, .inl u1_t_when))] := hD
  refine lv_aload_n hx hb dX7_whenOf_4 rfl (lv_at hl 0 rfl) ?_
  refine va_get (D := D) (ci := 7) (v := .ref t_when) (C := RX7) (T := TX7) (N := 29) hx hb hts (fun _ h => List.mem_cons_of_mem _ (List.mem_append_right _ (h))) hown hK hP 0 rfl rfl 14 (by decide) (hts (.fieldLink RX7 31 "MossWallModel" "when" "[I") (List.mem_cons_of_mem _ (List.mem_append_left _ (List.mem_append_left _ (List.mem_of_getElem? (i := 0) rfl))))) (fun _ h9 => h9) rfl dX7_whenOf_5 ?_
  refine lv_iload_n hx hb dX7_whenOf_8 rfl (lv_at hl 1 rfl) ?_
  obtain ⟨e2, h2, hM⟩ := mw_d1 hM
  refine mw_iald hx hb hK hP 7 0 rfl rfl h2 dX7_whenOf_9 ?_
  obtain ⟨rfl, rfl, rfl⟩ := mw_o3 hM
  subst hQ
  exact W.iret hx hb hr (fun t ht hW => ⟨⟨_, (), rfl, rfl, by rw [ht]; exact hP, hD⟩, hS.F ht⟩) hS.2.2 dX7_whenOf_10
def mX7_forceOf (t_clauses : Int32) (t_rains : Int32) (t_weekNext : Int32) (c_t_kinds : Nat → Int32) (c_t_deep : Nat → Int32) (c_t_leans : Nat → Int32) (c_t_moss : Nat → Int32) (c_t_rain : Nat → Int32) (c_t_mossThen : Nat → Int32) (p1 : Int32) : Option (Int32 × (Nat → Int32)) :=
  (mX7_begin t_clauses t_rains t_weekNext c_t_kinds c_t_deep c_t_leans c_t_moss c_t_rain c_t_mossThen p1).bind fun u1_t_mossThen => (mX7_forceBits t_clauses c_t_kinds c_t_deep c_t_leans 6 u1_t_mossThen).bind fun r2 => some (r2, u1_t_mossThen)
abbrev rmX7_forceOf : Room := ({ frames := 5, cells := 0, slots := 0, locals := 114 } : Room)
set_option maxHeartbeats 4000000 in
set_option maxRecDepth 100000 in
theorem kX7_forceOf (l : Launch) (D : va_G) (cA : ClassId) (t t_page t_kinds t_deep t_leans t_moss t_rain t_mossThen t_when t_sights t_keptKinds t_keptDeep t_keptLeans t_keptMoss t_keptSights : Nat) (sz : Nat) (t_pageMany : Int32) (t_end : Int32) (t_clauses : Int32) (t_rains : Int32) (t_weekNext : Int32) (t_breaths : Int32) (t_wallsRead : Int32) (t_needsDone : Int32) (t_seenMany : Int32) (t_seedNow : Int32) (t_keptWall : Int32) (t_keptWeek : Int32) (t_keptBreaths : Int32) (t_keptSeen : Int32) (t_hash : Int64) (c_t_kinds : Nat → Int32) (c_t_deep : Nat → Int32) (c_t_leans : Nat → Int32) (c_t_moss : Nat → Int32) (c_t_rain : Nat → Int32) (c_t_mossThen : Nat → Int32) (p1 : Int32) (r : Int32) (o_c_t_mossThen : Nat → Int32) (hM : mX7_forceOf t_clauses t_rains t_weekNext c_t_kinds c_t_deep c_t_leans c_t_moss c_t_rain c_t_mossThen p1 = some (r, o_c_t_mossThen)) : Met l yX7_forceOf wsX7_forceOf rmX7_forceOf (va_Pc [.ref t, .int p1] (fun U => U.heap.size = sz ∧ va_P D vwCl [(t, .inr (7, [.ref t_page, .int t_pageMany, .int t_end, .int t_clauses, .int t_rains, .int t_weekNext, .int t_breaths, .int t_wallsRead, .ref t_kinds, .ref t_deep, .ref t_leans, .ref t_moss, .ref t_rain, .ref t_mossThen, .ref t_when, .int t_needsDone, .int t_seenMany, .ref t_sights, .int t_seedNow, .int t_keptWall, .int t_keptWeek, .int t_keptBreaths, .int t_keptSeen, .ref t_keptKinds, .ref t_keptDeep, .ref t_keptLeans, .ref t_keptMoss, .ref t_keptSights, .long t_hash])), (t_kinds, .inl (cA, 6, .inl c_t_kinds)), (t_deep, .inl (cA, 6, .inl c_t_deep)), (t_leans, .inl (cA, 6, .inl c_t_leans)), (t_moss, .inl (cA, 6, .inl c_t_moss)), (t_rain, .inl (cA, 8, .inl c_t_rain)), (t_mossThen, .inl (cA, 6, .inl c_t_mossThen))] U.heap ∧ mw_ev D cA U ∧ va_D (fun _ => True) [(t, .inr (7, [.ref t_page, .int t_pageMany, .int t_end, .int t_clauses, .int t_rains, .int t_weekNext, .int t_breaths, .int t_wallsRead, .ref t_kinds, .ref t_deep, .ref t_leans, .ref t_moss, .ref t_rain, .ref t_mossThen, .ref t_when, .int t_needsDone, .int t_seenMany, .ref t_sights, .int t_seedNow, .int t_keptWall, .int t_keptWeek, .int t_keptBreaths, .int t_keptSeen, .ref t_keptKinds, .ref t_keptDeep, .ref t_keptLeans, .ref t_keptMoss, .ref t_keptSights, .long t_hash])), (t_kinds, .inl (cA, 6, .inl c_t_kinds)), (t_deep, .inl (cA, 6, .inl c_t_deep)), (t_leans, .inl (cA, 6, .inl c_t_leans)), (t_moss, .inl (cA, 6, .inl c_t_moss)), (t_rain, .inl (cA, 8, .inl c_t_rain)), (t_mossThen, .inl (cA, 6, .inl c_t_mossThen))])) (va_Qi (fun (v : Int32) (_ : Unit) => v = r) (fun (_ : Unit) w_ => va_P D vwCl [(t, .inr (7, [.ref t_page, .int t_pageMany, .int t_end, .int t_clauses, .int t_rains, .int t_weekNext, .int t_breaths, .int t_wallsRead, .ref t_kinds, .ref t_deep, .ref t_leans, .ref t_moss, .ref t_rain, .ref t_mossThen, .ref t_when, .int t_needsDone, .int t_seenMany, .ref t_sights, .int t_seedNow, .int t_keptWall, .int t_keptWeek, .int t_keptBreaths, .int t_keptSeen, .ref t_keptKinds, .ref t_keptDeep, .ref t_keptLeans, .ref t_keptMoss, .ref t_keptSights, .long t_hash])), (t_kinds, .inl (cA, 6, .inl c_t_kinds)), (t_deep, .inl (cA, 6, .inl c_t_deep)), (t_leans, .inl (cA, 6, .inl c_t_leans)), (t_moss, .inl (cA, 6, .inl c_t_moss)), (t_rain, .inl (cA, 8, .inl c_t_rain)), (t_mossThen, .inl (cA, 6, .inl o_c_t_mossThen))] w_.heap ∧ va_D (va_A [(t, .inr (7, [.ref t_page, .int t_pageMany, .int t_end, .int t_clauses, .int t_rains, .int t_weekNext, .int t_breaths, .int t_wallsRead, .ref t_kinds, .ref t_deep, .ref t_leans, .ref t_moss, .ref t_rain, .ref t_mossThen, .ref t_when, .int t_needsDone, .int t_seenMany, .ref t_sights, .int t_seedNow, .int t_keptWall, .int t_keptWeek, .int t_keptBreaths, .int t_keptSeen, .ref t_keptKinds, .ref t_keptDeep, .ref t_keptLeans, .ref t_keptMoss, .ref t_keptSights, .long t_hash])), (t_kinds, .inl (cA, 6, .inl c_t_kinds)), (t_deep, .inl (cA, 6, .inl c_t_deep)), (t_leans, .inl (cA, 6, .inl c_t_leans)), (t_moss, .inl (cA, 6, .inl c_t_moss)), (t_rain, .inl (cA, 8, .inl c_t_rain)), (t_mossThen, .inl (cA, 6, .inl c_t_mossThen))] sz) [(t, .inr (7, [.ref t_page, .int t_pageMany, .int t_end, .int t_clauses, .int t_rains, .int t_weekNext, .int t_breaths, .int t_wallsRead, .ref t_kinds, .ref t_deep, .ref t_leans, .ref t_moss, .ref t_rain, .ref t_mossThen, .ref t_when, .int t_needsDone, .int t_seenMany, .ref t_sights, .int t_seedNow, .int t_keptWall, .int t_keptWeek, .int t_keptBreaths, .int t_keptSeen, .ref t_keptKinds, .ref t_keptDeep, .ref t_keptLeans, .ref t_keptMoss, .ref t_keptSights, .long t_hash])), (t_kinds, .inl (cA, 6, .inl c_t_kinds)), (t_deep, .inl (cA, 6, .inl c_t_deep)), (t_leans, .inl (cA, 6, .inl c_t_leans)), (t_moss, .inl (cA, 6, .inl c_t_moss)), (t_rain, .inl (cA, 8, .inl c_t_rain)), (t_mossThen, .inl (cA, 6, .inl o_c_t_mossThen))]) (va_A [(t, .inr (7, [.ref t_page, .int t_pageMany, .int t_end, .int t_clauses, .int t_rains, .int t_weekNext, .int t_breaths, .int t_wallsRead, .ref t_kinds, .ref t_deep, .ref t_leans, .ref t_moss, .ref t_rain, .ref t_mossThen, .ref t_when, .int t_needsDone, .int t_seenMany, .ref t_sights, .int t_seedNow, .int t_keptWall, .int t_keptWeek, .int t_keptBreaths, .int t_keptSeen, .ref t_keptKinds, .ref t_keptDeep, .ref t_keptLeans, .ref t_keptMoss, .ref t_keptSights, .long t_hash])), (t_kinds, .inl (cA, 6, .inl c_t_kinds)), (t_deep, .inl (cA, 6, .inl c_t_deep)), (t_leans, .inl (cA, 6, .inl c_t_leans)), (t_moss, .inl (cA, 6, .inl c_t_moss)), (t_rain, .inl (cA, 8, .inl c_t_rain)), (t_mossThen, .inl (cA, 6, .inl c_t_mossThen))] sz)) 0 0 (va_A [(t, .inr (7, [.ref t_page, .int t_pageMany, .int t_end, .int t_clauses, .int t_rains, .int t_weekNext, .int t_breaths, .int t_wallsRead, .ref t_kinds, .ref t_deep, .ref t_leans, .ref t_moss, .ref t_rain, .ref t_mossThen, .ref t_when, .int t_needsDone, .int t_seenMany, .ref t_sights, .int t_seedNow, .int t_keptWall, .int t_keptWeek, .int t_keptBreaths, .int t_keptSeen, .ref t_keptKinds, .ref t_keptDeep, .ref t_keptLeans, .ref t_keptMoss, .ref t_keptSights, .long t_hash])), (t_kinds, .inl (cA, 6, .inl c_t_kinds)), (t_deep, .inl (cA, 6, .inl c_t_deep)), (t_leans, .inl (cA, 6, .inl c_t_leans)), (t_moss, .inl (cA, 6, .inl c_t_moss)), (t_rain, .inl (cA, 8, .inl c_t_rain)), (t_mossThen, .inl (cA, 6, .inl c_t_mossThen))] sz) := by
  unfold mX7_forceOf at hM
  refine Met.ofW (cc := cX7_forceOf) (maxL := 2) (ret := (some .int)) (by decide) rfl ?_
  intro p e s m args below meth c s₁ B hml hv
  obtain ⟨rfl, hsz, hP, hE, hD0⟩ := hv
  have hx := B.exec
  have hb := B.bytes
  have hr := B.returns
  have hts := atoms_spec (ws := wsX7_forceOf) B.pre
  have hown : s.vm.findClass RX7 = some m.cls := findClass_of_methodNamed B.named
  have hlocks := B.notSynchronized
  have hK := hE.1
  subst hsz
  have hD := hD0.self (sz := s.heap.size)
  generalize hAe : va_A [(t, .inr (7, [.ref t_page, .int t_pageMany, .int t_end, .int t_clauses, .int t_rains, .int t_weekNext, .int t_breaths, .int t_wallsRead, .ref t_kinds, .ref t_deep, .ref t_leans, .ref t_moss, .ref t_rain, .ref t_mossThen, .ref t_when, .int t_needsDone, .int t_seenMany, .ref t_sights, .int t_seedNow, .int t_keptWall, .int t_keptWeek, .int t_keptBreaths, .int t_keptSeen, .ref t_keptKinds, .ref t_keptDeep, .ref t_keptLeans, .ref t_keptMoss, .ref t_keptSights, .long t_hash])), (t_kinds, .inl (cA, 6, .inl c_t_kinds)), (t_deep, .inl (cA, 6, .inl c_t_deep)), (t_leans, .inl (cA, 6, .inl c_t_leans)), (t_moss, .inl (cA, 6, .inl c_t_moss)), (t_rain, .inl (cA, 8, .inl c_t_rain)), (t_mossThen, .inl (cA, 6, .inl c_t_mossThen))] s.heap.size = A at hD ⊢
  have hA : ∀ q : Nat, s.heap.size ≤ q → A q := fun q h => by rw [← hAe]; exact Or.inr h
  have hS : va_S A s.heap s.heap [] := va_S.rf
  have hl := lv_entry ([.ref t, .int p1]) (n := 2) (Nat.le_of_ble_eq_true rfl)
  rw [lg_entry_eq]
  generalize (lg_sl ([.ref t, .int p1]) ++ List.replicate (2 - (lg_sl ([.ref t, .int p1])).length) Slot.unset).toArray = ls at hl ⊢
  have hl : lv_has ls 2 [(0, .ref t), (1, .int p1)] := hl
  refine mw_q (P := fun Q => W p l e (headSpec wsX7_forceOf rmX7_forceOf).room s m (([.ref t, .int p1] : List Value).toArray) below meth c s.heap [] 0 0 Q (F0 m 0 ls [])) (fun Q hQ => ?_)
  refine lv_aload_n hx hb dX7_forceOf_0 rfl (lv_at hl 0 rfl) ?_
  refine lv_iload_n hx hb dX7_forceOf_1 rfl (lv_at hl 1 rfl) ?_
  obtain ⟨u1_t_mossThen, h1, hM⟩ := mw_d1 hM
  have hPc := hP.sub (ws' := [(t, .inr (7, [.ref t_page, .int t_pageMany, .int t_end, .int t_clauses, .int t_rains, .int t_weekNext, .int t_breaths, .int t_wallsRead, .ref t_kinds, .ref t_deep, .ref t_leans, .ref t_moss, .ref t_rain, .ref t_mossThen, .ref t_when, .int t_needsDone, .int t_seenMany, .ref t_sights, .int t_seedNow, .int t_keptWall, .int t_keptWeek, .int t_keptBreaths, .int t_keptSeen, .ref t_keptKinds, .ref t_keptDeep, .ref t_keptLeans, .ref t_keptMoss, .ref t_keptSights, .long t_hash])), (t_kinds, .inl (cA, 6, .inl c_t_kinds)), (t_deep, .inl (cA, 6, .inl c_t_deep)), (t_leans, .inl (cA, 6, .inl c_t_leans)), (t_moss, .inl (cA, 6, .inl c_t_moss)), (t_rain, .inl (cA, 8, .inl c_t_rain)), (t_mossThen, .inl (cA, 6, .inl c_t_mossThen))]) [0, 1, 2, 3, 4, 5, 6] rfl
  have hDc := hD.sub (ws' := [(t, .inr (7, [.ref t_page, .int t_pageMany, .int t_end, .int t_clauses, .int t_rains, .int t_weekNext, .int t_breaths, .int t_wallsRead, .ref t_kinds, .ref t_deep, .ref t_leans, .ref t_moss, .ref t_rain, .ref t_mossThen, .ref t_when, .int t_needsDone, .int t_seenMany, .ref t_sights, .int t_seedNow, .int t_keptWall, .int t_keptWeek, .int t_keptBreaths, .int t_keptSeen, .ref t_keptKinds, .ref t_keptDeep, .ref t_keptLeans, .ref t_keptMoss, .ref t_keptSights, .long t_hash])), (t_kinds, .inl (cA, 6, .inl c_t_kinds)), (t_deep, .inl (cA, 6, .inl c_t_deep)), (t_leans, .inl (cA, 6, .inl c_t_leans)), (t_moss, .inl (cA, 6, .inl c_t_moss)), (t_rain, .inl (cA, 8, .inl c_t_rain)), (t_mossThen, .inl (cA, 6, .inl c_t_mossThen))]) [0, 1, 2, 3, 4, 5, 6] (by decide) rfl
  have hFc := va_free (wc := [(t, .inr (7, [.ref t_page, .int t_pageMany, .int t_end, .int t_clauses, .int t_rains, .int t_weekNext, .int t_breaths, .int t_wallsRead, .ref t_kinds, .ref t_deep, .ref t_leans, .ref t_moss, .ref t_rain, .ref t_mossThen, .ref t_when, .int t_needsDone, .int t_seenMany, .ref t_sights, .int t_seedNow, .int t_keptWall, .int t_keptWeek, .int t_keptBreaths, .int t_keptSeen, .ref t_keptKinds, .ref t_keptDeep, .ref t_keptLeans, .ref t_keptMoss, .ref t_keptSights, .long t_hash])), (t_kinds, .inl (cA, 6, .inl c_t_kinds)), (t_deep, .inl (cA, 6, .inl c_t_deep)), (t_leans, .inl (cA, 6, .inl c_t_leans)), (t_moss, .inl (cA, 6, .inl c_t_moss)), (t_rain, .inl (cA, 8, .inl c_t_rain)), (t_mossThen, .inl (cA, 6, .inl c_t_mossThen))]) hD hS hA [0, 1, 2, 3, 4, 5, 6] rfl
  refine va_callv (va_runV (As := [.int p1]) (rest := []) ⟨hx, hb, hml, hown, hts⟩ (kX7_begin l D cA t t_page t_kinds t_deep t_leans t_moss t_rain t_mossThen t_when t_sights t_keptKinds t_keptDeep t_keptLeans t_keptMoss t_keptSights _ t_pageMany t_end t_clauses t_rains t_weekNext t_breaths t_wallsRead t_needsDone t_seenMany t_seedNow t_keptWall t_keptWeek t_keptBreaths t_keptSeen t_hash c_t_kinds c_t_deep c_t_leans c_t_moss c_t_rain c_t_mossThen p1 u1_t_mossThen h1) (cwV 1 hts gX7_forceOf_X7_begin rfl rfl rfl (by decide +kernel) ⟨Nat.le_of_ble_eq_true rfl, Nat.le_of_ble_eq_true rfl⟩) ⟨mw_fbW, va_recv hK hP (ci := 7) (q0 := 0) rfl rfl, mw_puW hPc hE hDc⟩ rfl rfl hl.1 rfl (lv_room (Nat.le_of_ble_eq_true rfl)) dX7_forceOf_2 ⟨Nat.zero_le _, Nat.zero_le _⟩) hS (fun q _ h => hFc q h) hFc (fun _ t_ H locs ht_ _ _ hB_ _ hk_ hS => ?_)
  obtain ⟨hP1, hD1⟩ := hB_
  rw [ht_] at hP1
  obtain ⟨hP, hD⟩ := va_join (wr := []) (w1 := [(t, .inr (7, [.ref t_page, .int t_pageMany, .int t_end, .int t_clauses, .int t_rains, .int t_weekNext, .int t_breaths, .int t_wallsRead, .ref t_kinds, .ref t_deep, .ref t_leans, .ref t_moss, .ref t_rain, .ref t_mossThen, .ref t_when, .int t_needsDone, .int t_seenMany, .ref t_sights, .int t_seedNow, .int t_keptWall, .int t_keptWeek, .int t_keptBreaths, .int t_keptSeen, .ref t_keptKinds, .ref t_keptDeep, .ref t_keptLeans, .ref t_keptMoss, .ref t_keptSights, .long t_hash])), (t_kinds, .inl (cA, 6, .inl c_t_kinds)), (t_deep, .inl (cA, 6, .inl c_t_deep)), (t_leans, .inl (cA, 6, .inl c_t_leans)), (t_moss, .inl (cA, 6, .inl c_t_moss)), (t_rain, .inl (cA, 8, .inl c_t_rain)), (t_mossThen, .inl (cA, 6, .inl u1_t_mossThen))]) hP hD [0, 1, 2, 3, 4, 5, 6] [] rfl rfl (by decide) (by decide) hk_ hFc hP1 hD1
  have hP : va_P D vwCl [(t, .inr (7, [.ref t_page, .int t_pageMany, .int t_end, .int t_clauses, .int t_rains, .int t_weekNext, .int t_breaths, .int t_wallsRead, .ref t_kinds, .ref t_deep, .ref t_leans, .ref t_moss, .ref t_rain, .ref t_mossThen, .ref t_when, .int t_needsDone, .int t_seenMany, .ref t_sights, .int t_seedNow, .int t_keptWall, .int t_keptWeek, .int t_keptBreaths, .int t_keptSeen, .ref t_keptKinds, .ref t_keptDeep, .ref t_keptLeans, .ref t_keptMoss, .ref t_keptSights, .long t_hash])), (t_kinds, .inl (cA, 6, .inl c_t_kinds)), (t_deep, .inl (cA, 6, .inl c_t_deep)), (t_leans, .inl (cA, 6, .inl c_t_leans)), (t_moss, .inl (cA, 6, .inl c_t_moss)), (t_rain, .inl (cA, 8, .inl c_t_rain)), (t_mossThen, .inl (cA, 6, .inl u1_t_mossThen))] H := hP
  have hD : va_D A [(t, .inr (7, [.ref t_page, .int t_pageMany, .int t_end, .int t_clauses, .int t_rains, .int t_weekNext, .int t_breaths, .int t_wallsRead, .ref t_kinds, .ref t_deep, .ref t_leans, .ref t_moss, .ref t_rain, .ref t_mossThen, .ref t_when, .int t_needsDone, .int t_seenMany, .ref t_sights, .int t_seedNow, .int t_keptWall, .int t_keptWeek, .int t_keptBreaths, .int t_keptSeen, .ref t_keptKinds, .ref t_keptDeep, .ref t_keptLeans, .ref t_keptMoss, .ref t_keptSights, .long t_hash])), (t_kinds, .inl (cA, 6, .inl c_t_kinds)), (t_deep, .inl (cA, 6, .inl c_t_deep)), (t_leans, .inl (cA, 6, .inl c_t_leans)), (t_moss, .inl (cA, 6, .inl c_t_moss)), (t_rain, .inl (cA, 8, .inl c_t_rain)), (t_mossThen, .inl (cA, 6, .inl u1_t_mossThen))] := hD
  refine lv_aload_n hx hb dX7_forceOf_5 rfl (lv_at hl 0 rfl) ?_
  refine lv_aload_n hx hb dX7_forceOf_6 rfl (lv_at hl 0 rfl) ?_
  refine va_get (D := D) (ci := 7) (v := .ref t_mossThen) (C := RX7) (T := TX7) (N := 29) hx hb hts (fun _ h => List.mem_cons_of_mem _ (List.mem_append_right _ (h))) hown hK hP 0 rfl rfl 13 (by decide) (hts (.fieldLink RX7 28 "MossWallModel" "mossThen" "[I") (List.mem_cons_of_mem _ (List.mem_append_left _ (List.mem_append_left _ (List.mem_of_getElem? (i := 0) rfl))))) (fun _ h9 => h9) rfl dX7_forceOf_7 ?_
  obtain ⟨r2, h2, hM⟩ := mw_d1 hM
  have hPc := hP.sub (ws' := [(t, .inr (7, [.ref t_page, .int t_pageMany, .int t_end, .int t_clauses, .int t_rains, .int t_weekNext, .int t_breaths, .int t_wallsRead, .ref t_kinds, .ref t_deep, .ref t_leans, .ref t_moss, .ref t_rain, .ref t_mossThen, .ref t_when, .int t_needsDone, .int t_seenMany, .ref t_sights, .int t_seedNow, .int t_keptWall, .int t_keptWeek, .int t_keptBreaths, .int t_keptSeen, .ref t_keptKinds, .ref t_keptDeep, .ref t_keptLeans, .ref t_keptMoss, .ref t_keptSights, .long t_hash])), (t_kinds, .inl (cA, 6, .inl c_t_kinds)), (t_deep, .inl (cA, 6, .inl c_t_deep)), (t_leans, .inl (cA, 6, .inl c_t_leans)), (t_mossThen, .inl (cA, 6, .inl u1_t_mossThen))]) [0, 1, 2, 3, 6] rfl
  refine vp_callSi (va_Run.run (va_runV (As := [.ref t_mossThen]) (rest := []) ⟨hx, hb, hml, hown, hts⟩ (kX7_forceBits l D cA t t_mossThen t_page t_kinds t_deep t_leans t_moss t_rain t_mossThen t_when t_sights t_keptKinds t_keptDeep t_keptLeans t_keptMoss t_keptSights t_pageMany t_end t_clauses t_rains t_weekNext t_breaths t_wallsRead t_needsDone t_seenMany t_seedNow t_keptWall t_keptWeek t_keptBreaths t_keptSeen t_hash c_t_kinds c_t_deep c_t_leans 6 u1_t_mossThen r2 h2) (cwV 1 hts gX7_forceOf_X7_forceBits rfl rfl rfl (by decide +kernel) ⟨Nat.le_of_ble_eq_true rfl, Nat.le_of_ble_eq_true rfl⟩) ⟨mw_fbR, va_recv hK hP (ci := 7) (q0 := 0) rfl rfl, mw_puR hPc hE⟩ rfl rfl hl.1 rfl (lv_room (Nat.le_of_ble_eq_true rfl)) dX7_forceOf_10 ⟨Nat.zero_le _, Nat.zero_le _⟩)) (fun v_ e_ => ?_)
  subst v_
  obtain ⟨rfl, rfl⟩ := mw_o2 hM
  subst hQ
  exact W.iret hx hb hr (fun t ht hW => ⟨⟨_, (), rfl, rfl, by rw [ht]; exact hP, hD⟩, hS.F ht⟩) hS.2.2 dX7_forceOf_13
def mX7_force (t_clauses : Int32) (t_rains : Int32) (t_weekNext : Int32) (c_t_kinds : Nat → Int32) (c_t_deep : Nat → Int32) (c_t_leans : Nat → Int32) (c_t_moss : Nat → Int32) (c_t_rain : Nat → Int32) (c_t_mossThen : Nat → Int32) (p1 : Int32) : Option (Int32 × (Nat → Int32)) :=
  (mX7_in (Int32.toInt64 p1) 0 99).bind fun r1 => (if r1 = 0 then some ((-102), c_t_mossThen) else (mX7_lacks t_clauses).bind fun r3 => (if r3 = 0 then mw_b2 (mX7_forceOf t_clauses t_rains t_weekNext c_t_kinds c_t_deep c_t_leans c_t_moss c_t_rain c_t_mossThen p1) fun r5 u5_t_mossThen => some (r5, u5_t_mossThen) else some ((-103), c_t_mossThen)))
abbrev rmX7_force : Room := ({ frames := 6, cells := 0, slots := 0, locals := 135 } : Room)
set_option maxHeartbeats 4000000 in
set_option maxRecDepth 100000 in
theorem kX7_force (l : Launch) (D : va_G) (cA : ClassId) (t t_page t_kinds t_deep t_leans t_moss t_rain t_mossThen t_when t_sights t_keptKinds t_keptDeep t_keptLeans t_keptMoss t_keptSights : Nat) (sz : Nat) (t_pageMany : Int32) (t_end : Int32) (t_clauses : Int32) (t_rains : Int32) (t_weekNext : Int32) (t_breaths : Int32) (t_wallsRead : Int32) (t_needsDone : Int32) (t_seenMany : Int32) (t_seedNow : Int32) (t_keptWall : Int32) (t_keptWeek : Int32) (t_keptBreaths : Int32) (t_keptSeen : Int32) (t_hash : Int64) (c_t_kinds : Nat → Int32) (c_t_deep : Nat → Int32) (c_t_leans : Nat → Int32) (c_t_moss : Nat → Int32) (c_t_rain : Nat → Int32) (c_t_mossThen : Nat → Int32) (p1 : Int32) (r : Int32) (o_c_t_mossThen : Nat → Int32) (hM : mX7_force t_clauses t_rains t_weekNext c_t_kinds c_t_deep c_t_leans c_t_moss c_t_rain c_t_mossThen p1 = some (r, o_c_t_mossThen)) : Met l yX7_force wsX7_force rmX7_force (va_Pc [.ref t, .int p1] (fun U => U.heap.size = sz ∧ va_P D vwCl [(t, .inr (7, [.ref t_page, .int t_pageMany, .int t_end, .int t_clauses, .int t_rains, .int t_weekNext, .int t_breaths, .int t_wallsRead, .ref t_kinds, .ref t_deep, .ref t_leans, .ref t_moss, .ref t_rain, .ref t_mossThen, .ref t_when, .int t_needsDone, .int t_seenMany, .ref t_sights, .int t_seedNow, .int t_keptWall, .int t_keptWeek, .int t_keptBreaths, .int t_keptSeen, .ref t_keptKinds, .ref t_keptDeep, .ref t_keptLeans, .ref t_keptMoss, .ref t_keptSights, .long t_hash])), (t_kinds, .inl (cA, 6, .inl c_t_kinds)), (t_deep, .inl (cA, 6, .inl c_t_deep)), (t_leans, .inl (cA, 6, .inl c_t_leans)), (t_moss, .inl (cA, 6, .inl c_t_moss)), (t_rain, .inl (cA, 8, .inl c_t_rain)), (t_mossThen, .inl (cA, 6, .inl c_t_mossThen))] U.heap ∧ mw_ev D cA U ∧ va_D (fun _ => True) [(t, .inr (7, [.ref t_page, .int t_pageMany, .int t_end, .int t_clauses, .int t_rains, .int t_weekNext, .int t_breaths, .int t_wallsRead, .ref t_kinds, .ref t_deep, .ref t_leans, .ref t_moss, .ref t_rain, .ref t_mossThen, .ref t_when, .int t_needsDone, .int t_seenMany, .ref t_sights, .int t_seedNow, .int t_keptWall, .int t_keptWeek, .int t_keptBreaths, .int t_keptSeen, .ref t_keptKinds, .ref t_keptDeep, .ref t_keptLeans, .ref t_keptMoss, .ref t_keptSights, .long t_hash])), (t_kinds, .inl (cA, 6, .inl c_t_kinds)), (t_deep, .inl (cA, 6, .inl c_t_deep)), (t_leans, .inl (cA, 6, .inl c_t_leans)), (t_moss, .inl (cA, 6, .inl c_t_moss)), (t_rain, .inl (cA, 8, .inl c_t_rain)), (t_mossThen, .inl (cA, 6, .inl c_t_mossThen))])) (va_Qi (fun (v : Int32) (_ : Unit) => v = r) (fun (_ : Unit) w_ => va_P D vwCl [(t, .inr (7, [.ref t_page, .int t_pageMany, .int t_end, .int t_clauses, .int t_rains, .int t_weekNext, .int t_breaths, .int t_wallsRead, .ref t_kinds, .ref t_deep, .ref t_leans, .ref t_moss, .ref t_rain, .ref t_mossThen, .ref t_when, .int t_needsDone, .int t_seenMany, .ref t_sights, .int t_seedNow, .int t_keptWall, .int t_keptWeek, .int t_keptBreaths, .int t_keptSeen, .ref t_keptKinds, .ref t_keptDeep, .ref t_keptLeans, .ref t_keptMoss, .ref t_keptSights, .long t_hash])), (t_kinds, .inl (cA, 6, .inl c_t_kinds)), (t_deep, .inl (cA, 6, .inl c_t_deep)), (t_leans, .inl (cA, 6, .inl c_t_leans)), (t_moss, .inl (cA, 6, .inl c_t_moss)), (t_rain, .inl (cA, 8, .inl c_t_rain)), (t_mossThen, .inl (cA, 6, .inl o_c_t_mossThen))] w_.heap ∧ va_D (va_A [(t, .inr (7, [.ref t_page, .int t_pageMany, .int t_end, .int t_clauses, .int t_rains, .int t_weekNext, .int t_breaths, .int t_wallsRead, .ref t_kinds, .ref t_deep, .ref t_leans, .ref t_moss, .ref t_rain, .ref t_mossThen, .ref t_when, .int t_needsDone, .int t_seenMany, .ref t_sights, .int t_seedNow, .int t_keptWall, .int t_keptWeek, .int t_keptBreaths, .int t_keptSeen, .ref t_keptKinds, .ref t_keptDeep, .ref t_keptLeans, .ref t_keptMoss, .ref t_keptSights, .long t_hash])), (t_kinds, .inl (cA, 6, .inl c_t_kinds)), (t_deep, .inl (cA, 6, .inl c_t_deep)), (t_leans, .inl (cA, 6, .inl c_t_leans)), (t_moss, .inl (cA, 6, .inl c_t_moss)), (t_rain, .inl (cA, 8, .inl c_t_rain)), (t_mossThen, .inl (cA, 6, .inl c_t_mossThen))] sz) [(t, .inr (7, [.ref t_page, .int t_pageMany, .int t_end, .int t_clauses, .int t_rains, .int t_weekNext, .int t_breaths, .int t_wallsRead, .ref t_kinds, .ref t_deep, .ref t_leans, .ref t_moss, .ref t_rain, .ref t_mossThen, .ref t_when, .int t_needsDone, .int t_seenMany, .ref t_sights, .int t_seedNow, .int t_keptWall, .int t_keptWeek, .int t_keptBreaths, .int t_keptSeen, .ref t_keptKinds, .ref t_keptDeep, .ref t_keptLeans, .ref t_keptMoss, .ref t_keptSights, .long t_hash])), (t_kinds, .inl (cA, 6, .inl c_t_kinds)), (t_deep, .inl (cA, 6, .inl c_t_deep)), (t_leans, .inl (cA, 6, .inl c_t_leans)), (t_moss, .inl (cA, 6, .inl c_t_moss)), (t_rain, .inl (cA, 8, .inl c_t_rain)), (t_mossThen, .inl (cA, 6, .inl o_c_t_mossThen))]) (va_A [(t, .inr (7, [.ref t_page, .int t_pageMany, .int t_end, .int t_clauses, .int t_rains, .int t_weekNext, .int t_breaths, .int t_wallsRead, .ref t_kinds, .ref t_deep, .ref t_leans, .ref t_moss, .ref t_rain, .ref t_mossThen, .ref t_when, .int t_needsDone, .int t_seenMany, .ref t_sights, .int t_seedNow, .int t_keptWall, .int t_keptWeek, .int t_keptBreaths, .int t_keptSeen, .ref t_keptKinds, .ref t_keptDeep, .ref t_keptLeans, .ref t_keptMoss, .ref t_keptSights, .long t_hash])), (t_kinds, .inl (cA, 6, .inl c_t_kinds)), (t_deep, .inl (cA, 6, .inl c_t_deep)), (t_leans, .inl (cA, 6, .inl c_t_leans)), (t_moss, .inl (cA, 6, .inl c_t_moss)), (t_rain, .inl (cA, 8, .inl c_t_rain)), (t_mossThen, .inl (cA, 6, .inl c_t_mossThen))] sz)) 0 0 (va_A [(t, .inr (7, [.ref t_page, .int t_pageMany, .int t_end, .int t_clauses, .int t_rains, .int t_weekNext, .int t_breaths, .int t_wallsRead, .ref t_kinds, .ref t_deep, .ref t_leans, .ref t_moss, .ref t_rain, .ref t_mossThen, .ref t_when, .int t_needsDone, .int t_seenMany, .ref t_sights, .int t_seedNow, .int t_keptWall, .int t_keptWeek, .int t_keptBreaths, .int t_keptSeen, .ref t_keptKinds, .ref t_keptDeep, .ref t_keptLeans, .ref t_keptMoss, .ref t_keptSights, .long t_hash])), (t_kinds, .inl (cA, 6, .inl c_t_kinds)), (t_deep, .inl (cA, 6, .inl c_t_deep)), (t_leans, .inl (cA, 6, .inl c_t_leans)), (t_moss, .inl (cA, 6, .inl c_t_moss)), (t_rain, .inl (cA, 8, .inl c_t_rain)), (t_mossThen, .inl (cA, 6, .inl c_t_mossThen))] sz) := by
  unfold mX7_force at hM
  refine Met.ofW (cc := cX7_force) (maxL := 2) (ret := (some .int)) (by decide) rfl ?_
  intro p e s m args below meth c s₁ B hml hv
  obtain ⟨rfl, hsz, hP, hE, hD0⟩ := hv
  have hx := B.exec
  have hb := B.bytes
  have hr := B.returns
  have hts := atoms_spec (ws := wsX7_force) B.pre
  have hown : s.vm.findClass RX7 = some m.cls := findClass_of_methodNamed B.named
  have hlocks := B.notSynchronized
  have hK := hE.1
  subst hsz
  have hD := hD0.self (sz := s.heap.size)
  generalize hAe : va_A [(t, .inr (7, [.ref t_page, .int t_pageMany, .int t_end, .int t_clauses, .int t_rains, .int t_weekNext, .int t_breaths, .int t_wallsRead, .ref t_kinds, .ref t_deep, .ref t_leans, .ref t_moss, .ref t_rain, .ref t_mossThen, .ref t_when, .int t_needsDone, .int t_seenMany, .ref t_sights, .int t_seedNow, .int t_keptWall, .int t_keptWeek, .int t_keptBreaths, .int t_keptSeen, .ref t_keptKinds, .ref t_keptDeep, .ref t_keptLeans, .ref t_keptMoss, .ref t_keptSights, .long t_hash])), (t_kinds, .inl (cA, 6, .inl c_t_kinds)), (t_deep, .inl (cA, 6, .inl c_t_deep)), (t_leans, .inl (cA, 6, .inl c_t_leans)), (t_moss, .inl (cA, 6, .inl c_t_moss)), (t_rain, .inl (cA, 8, .inl c_t_rain)), (t_mossThen, .inl (cA, 6, .inl c_t_mossThen))] s.heap.size = A at hD ⊢
  have hA : ∀ q : Nat, s.heap.size ≤ q → A q := fun q h => by rw [← hAe]; exact Or.inr h
  have hS : va_S A s.heap s.heap [] := va_S.rf
  have hl := lv_entry ([.ref t, .int p1]) (n := 2) (Nat.le_of_ble_eq_true rfl)
  rw [lg_entry_eq]
  generalize (lg_sl ([.ref t, .int p1]) ++ List.replicate (2 - (lg_sl ([.ref t, .int p1])).length) Slot.unset).toArray = ls at hl ⊢
  have hl : lv_has ls 2 [(0, .ref t), (1, .int p1)] := hl
  refine mw_q (P := fun Q => W p l e (headSpec wsX7_force rmX7_force).room s m (([.ref t, .int p1] : List Value).toArray) below meth c s.heap [] 0 0 Q (F0 m 0 ls [])) (fun Q hQ => ?_)
  refine lv_iload_n hx hb dX7_force_0 rfl (lv_at hl 1 rfl) ?_
  refine lv_i2l (v := Int32.toInt64 p1) hx hb dX7_force_1 rfl ?_
  refine lv_lconst (v := 0) hx hb dX7_force_2 (by decide) ?_
  refine lv_ldc2 (v := 99) hx hb hown (hts (.constantLong RX7 146 (99)) (List.mem_cons_of_mem _ (List.mem_append_left _ (List.mem_append_left _ (List.mem_of_getElem? (i := 0) rfl))))) dX7_force_3 ?_
  obtain ⟨r1, h1, hM⟩ := mw_d1 hM
  have hPc := hP.sub (ws' := []) [] rfl
  refine vp_callSi (va_Run.run (va_runS (As := [.long (Int32.toInt64 p1), .long 0, .long 99]) (rest := []) ⟨hx, hb, hml, hown, hts⟩ (kX7_in l D cA (Int32.toInt64 p1) 0 99 r1 h1) (va_cwS 3 hts gX7_force_X7_in rfl rfl rfl (by decide +kernel) ⟨Nat.le_of_ble_eq_true rfl, Nat.le_of_ble_eq_true rfl⟩) ⟨mw_fbR, mw_puR hPc hE⟩ rfl rfl hl.1 rfl (lv_room (Nat.le_of_ble_eq_true rfl)) dX7_force_6 ⟨Nat.zero_le _, Nat.zero_le _⟩)) (fun v_ e_ => ?_)
  obtain ⟨e_, b1⟩ := e_
  subst v_
  refine lv_if_ne (tgt := 15) hx hb dX7_force_9 (by decide) (fun q2 => ?_) (fun q2 => ?_)
  · replace hM := mw_f hM q2
    refine lv_aload_n hx hb dX7_force_15 rfl (lv_at hl 0 rfl) ?_
    obtain ⟨r3, h3, hM⟩ := mw_d1 hM
    have hPc := hP.sub (ws' := [(t, .inr (7, [.ref t_page, .int t_pageMany, .int t_end, .int t_clauses, .int t_rains, .int t_weekNext, .int t_breaths, .int t_wallsRead, .ref t_kinds, .ref t_deep, .ref t_leans, .ref t_moss, .ref t_rain, .ref t_mossThen, .ref t_when, .int t_needsDone, .int t_seenMany, .ref t_sights, .int t_seedNow, .int t_keptWall, .int t_keptWeek, .int t_keptBreaths, .int t_keptSeen, .ref t_keptKinds, .ref t_keptDeep, .ref t_keptLeans, .ref t_keptMoss, .ref t_keptSights, .long t_hash]))]) [0] rfl
    refine vp_callSi (va_Run.run (va_runV (As := []) (rest := []) ⟨hx, hb, hml, hown, hts⟩ (kX7_lacks l D cA t t_page t_kinds t_deep t_leans t_moss t_rain t_mossThen t_when t_sights t_keptKinds t_keptDeep t_keptLeans t_keptMoss t_keptSights t_pageMany t_end t_clauses t_rains t_weekNext t_breaths t_wallsRead t_needsDone t_seenMany t_seedNow t_keptWall t_keptWeek t_keptBreaths t_keptSeen t_hash r3 h3) (cwV 0 hts gX7_force_X7_lacks rfl rfl rfl (by decide +kernel) ⟨Nat.le_of_ble_eq_true rfl, Nat.le_of_ble_eq_true rfl⟩) ⟨mw_fbR, va_recv hK hP (ci := 7) (q0 := 0) rfl rfl, mw_puR hPc hE⟩ rfl rfl hl.1 rfl (lv_room (Nat.le_of_ble_eq_true rfl)) dX7_force_16 ⟨Nat.zero_le _, Nat.zero_le _⟩)) (fun v_ e_ => ?_)
    obtain ⟨e_, b3⟩ := e_
    subst v_
    refine lv_if_eq (tgt := 27) hx hb dX7_force_19 (by decide) (fun q4 => ?_) (fun q4 => ?_)
    · replace hM := mw_t hM q4
      refine lv_aload_n hx hb dX7_force_27 rfl (lv_at hl 0 rfl) ?_
      refine lv_iload_n hx hb dX7_force_28 rfl (lv_at hl 1 rfl) ?_
      obtain ⟨r5, u5_t_mossThen, h5, hM⟩ := mw_d2 hM
      have hPc := hP.sub (ws' := [(t, .inr (7, [.ref t_page, .int t_pageMany, .int t_end, .int t_clauses, .int t_rains, .int t_weekNext, .int t_breaths, .int t_wallsRead, .ref t_kinds, .ref t_deep, .ref t_leans, .ref t_moss, .ref t_rain, .ref t_mossThen, .ref t_when, .int t_needsDone, .int t_seenMany, .ref t_sights, .int t_seedNow, .int t_keptWall, .int t_keptWeek, .int t_keptBreaths, .int t_keptSeen, .ref t_keptKinds, .ref t_keptDeep, .ref t_keptLeans, .ref t_keptMoss, .ref t_keptSights, .long t_hash])), (t_kinds, .inl (cA, 6, .inl c_t_kinds)), (t_deep, .inl (cA, 6, .inl c_t_deep)), (t_leans, .inl (cA, 6, .inl c_t_leans)), (t_moss, .inl (cA, 6, .inl c_t_moss)), (t_rain, .inl (cA, 8, .inl c_t_rain)), (t_mossThen, .inl (cA, 6, .inl c_t_mossThen))]) [0, 1, 2, 3, 4, 5, 6] rfl
      have hDc := hD.sub (ws' := [(t, .inr (7, [.ref t_page, .int t_pageMany, .int t_end, .int t_clauses, .int t_rains, .int t_weekNext, .int t_breaths, .int t_wallsRead, .ref t_kinds, .ref t_deep, .ref t_leans, .ref t_moss, .ref t_rain, .ref t_mossThen, .ref t_when, .int t_needsDone, .int t_seenMany, .ref t_sights, .int t_seedNow, .int t_keptWall, .int t_keptWeek, .int t_keptBreaths, .int t_keptSeen, .ref t_keptKinds, .ref t_keptDeep, .ref t_keptLeans, .ref t_keptMoss, .ref t_keptSights, .long t_hash])), (t_kinds, .inl (cA, 6, .inl c_t_kinds)), (t_deep, .inl (cA, 6, .inl c_t_deep)), (t_leans, .inl (cA, 6, .inl c_t_leans)), (t_moss, .inl (cA, 6, .inl c_t_moss)), (t_rain, .inl (cA, 8, .inl c_t_rain)), (t_mossThen, .inl (cA, 6, .inl c_t_mossThen))]) [0, 1, 2, 3, 4, 5, 6] (by decide) rfl
      have hFc := va_free (wc := [(t, .inr (7, [.ref t_page, .int t_pageMany, .int t_end, .int t_clauses, .int t_rains, .int t_weekNext, .int t_breaths, .int t_wallsRead, .ref t_kinds, .ref t_deep, .ref t_leans, .ref t_moss, .ref t_rain, .ref t_mossThen, .ref t_when, .int t_needsDone, .int t_seenMany, .ref t_sights, .int t_seedNow, .int t_keptWall, .int t_keptWeek, .int t_keptBreaths, .int t_keptSeen, .ref t_keptKinds, .ref t_keptDeep, .ref t_keptLeans, .ref t_keptMoss, .ref t_keptSights, .long t_hash])), (t_kinds, .inl (cA, 6, .inl c_t_kinds)), (t_deep, .inl (cA, 6, .inl c_t_deep)), (t_leans, .inl (cA, 6, .inl c_t_leans)), (t_moss, .inl (cA, 6, .inl c_t_moss)), (t_rain, .inl (cA, 8, .inl c_t_rain)), (t_mossThen, .inl (cA, 6, .inl c_t_mossThen))]) hD hS hA [0, 1, 2, 3, 4, 5, 6] rfl
      refine va_calli (va_runV (As := [.int p1]) (rest := []) ⟨hx, hb, hml, hown, hts⟩ (kX7_forceOf l D cA t t_page t_kinds t_deep t_leans t_moss t_rain t_mossThen t_when t_sights t_keptKinds t_keptDeep t_keptLeans t_keptMoss t_keptSights _ t_pageMany t_end t_clauses t_rains t_weekNext t_breaths t_wallsRead t_needsDone t_seenMany t_seedNow t_keptWall t_keptWeek t_keptBreaths t_keptSeen t_hash c_t_kinds c_t_deep c_t_leans c_t_moss c_t_rain c_t_mossThen p1 r5 u5_t_mossThen h5) (cwV 1 hts gX7_force_X7_forceOf rfl rfl rfl (by decide +kernel) ⟨Nat.le_of_ble_eq_true rfl, Nat.le_of_ble_eq_true rfl⟩) ⟨mw_fbW, va_recv hK hP (ci := 7) (q0 := 0) rfl rfl, mw_puW hPc hE hDc⟩ rfl rfl hl.1 rfl (lv_room (Nat.le_of_ble_eq_true rfl)) dX7_force_29 ⟨Nat.zero_le _, Nat.zero_le _⟩) hS (fun q _ h => hFc q h) hFc (fun v_ _ t_ H locs ht_ _ e_ hB_ _ hk_ hS => ?_)
      subst v_
      obtain ⟨hP1, hD1⟩ := hB_
      rw [ht_] at hP1
      obtain ⟨hP, hD⟩ := va_join (wr := []) (w1 := [(t, .inr (7, [.ref t_page, .int t_pageMany, .int t_end, .int t_clauses, .int t_rains, .int t_weekNext, .int t_breaths, .int t_wallsRead, .ref t_kinds, .ref t_deep, .ref t_leans, .ref t_moss, .ref t_rain, .ref t_mossThen, .ref t_when, .int t_needsDone, .int t_seenMany, .ref t_sights, .int t_seedNow, .int t_keptWall, .int t_keptWeek, .int t_keptBreaths, .int t_keptSeen, .ref t_keptKinds, .ref t_keptDeep, .ref t_keptLeans, .ref t_keptMoss, .ref t_keptSights, .long t_hash])), (t_kinds, .inl (cA, 6, .inl c_t_kinds)), (t_deep, .inl (cA, 6, .inl c_t_deep)), (t_leans, .inl (cA, 6, .inl c_t_leans)), (t_moss, .inl (cA, 6, .inl c_t_moss)), (t_rain, .inl (cA, 8, .inl c_t_rain)), (t_mossThen, .inl (cA, 6, .inl u5_t_mossThen))]) hP hD [0, 1, 2, 3, 4, 5, 6] [] rfl rfl (by decide) (by decide) hk_ hFc hP1 hD1
      have hP : va_P D vwCl [(t, .inr (7, [.ref t_page, .int t_pageMany, .int t_end, .int t_clauses, .int t_rains, .int t_weekNext, .int t_breaths, .int t_wallsRead, .ref t_kinds, .ref t_deep, .ref t_leans, .ref t_moss, .ref t_rain, .ref t_mossThen, .ref t_when, .int t_needsDone, .int t_seenMany, .ref t_sights, .int t_seedNow, .int t_keptWall, .int t_keptWeek, .int t_keptBreaths, .int t_keptSeen, .ref t_keptKinds, .ref t_keptDeep, .ref t_keptLeans, .ref t_keptMoss, .ref t_keptSights, .long t_hash])), (t_kinds, .inl (cA, 6, .inl c_t_kinds)), (t_deep, .inl (cA, 6, .inl c_t_deep)), (t_leans, .inl (cA, 6, .inl c_t_leans)), (t_moss, .inl (cA, 6, .inl c_t_moss)), (t_rain, .inl (cA, 8, .inl c_t_rain)), (t_mossThen, .inl (cA, 6, .inl u5_t_mossThen))] H := hP
      have hD : va_D A [(t, .inr (7, [.ref t_page, .int t_pageMany, .int t_end, .int t_clauses, .int t_rains, .int t_weekNext, .int t_breaths, .int t_wallsRead, .ref t_kinds, .ref t_deep, .ref t_leans, .ref t_moss, .ref t_rain, .ref t_mossThen, .ref t_when, .int t_needsDone, .int t_seenMany, .ref t_sights, .int t_seedNow, .int t_keptWall, .int t_keptWeek, .int t_keptBreaths, .int t_keptSeen, .ref t_keptKinds, .ref t_keptDeep, .ref t_keptLeans, .ref t_keptMoss, .ref t_keptSights, .long t_hash])), (t_kinds, .inl (cA, 6, .inl c_t_kinds)), (t_deep, .inl (cA, 6, .inl c_t_deep)), (t_leans, .inl (cA, 6, .inl c_t_leans)), (t_moss, .inl (cA, 6, .inl c_t_moss)), (t_rain, .inl (cA, 8, .inl c_t_rain)), (t_mossThen, .inl (cA, 6, .inl u5_t_mossThen))] := hD
      obtain ⟨rfl, rfl⟩ := mw_o2 hM
      subst hQ
      exact W.iret hx hb hr (fun t ht hW => ⟨⟨_, (), rfl, rfl, by rw [ht]; exact hP, hD⟩, hS.F ht⟩) hS.2.2 dX7_force_32
    · replace hM := mw_f hM q4
      refine lv_bipush (v := (-103)) hx hb dX7_force_22 (by decide) ?_
      refine lv_goto (tgt := 32) hx hb dX7_force_24 (by decide) ?_
      obtain ⟨rfl, rfl⟩ := mw_o2 hM
      subst hQ
      exact W.iret hx hb hr (fun t ht hW => ⟨⟨_, (), rfl, rfl, by rw [ht]; exact hP, hD⟩, hS.F ht⟩) hS.2.2 dX7_force_32
  · replace hM := mw_t hM q2
    refine lv_bipush (v := (-102)) hx hb dX7_force_12 (by decide) ?_
    obtain ⟨rfl, rfl⟩ := mw_o2 hM
    subst hQ
    exact W.iret hx hb hr (fun t ht hW => ⟨⟨_, (), rfl, rfl, by rw [ht]; exact hP, hD⟩, hS.F ht⟩) hS.2.2 dX7_force_14
def mX7_orderOf_L2 (t_clauses : Int32) (u1_t_when : Nat → Int32) (x2_1 : Int32) (k2_53 : Int32 → Int32 → Option (Int32 × (Nat → Int32) × (Nat → Int32))) : Nat → Int32 → Int32 → Option (Int32 × (Nat → Int32) × (Nat → Int32))
  | 0, _, _ => none
  | n2 + 1, x3_2, x1_2 =>
    (if t_clauses ≤ x3_2 then k2_53 x3_2 x1_2 else (mw_rd u1_t_when 6 x3_2).bind fun e4 => (if e4 = x2_1 then mX7_orderOf_L2 t_clauses u1_t_when x2_1 k2_53 n2 (x3_2 + 1) (((10 * x1_2) + x3_2) + 1) else mX7_orderOf_L2 t_clauses u1_t_when x2_1 k2_53 n2 (x3_2 + 1) x1_2))
def mX7_orderOf_L1 (t_clauses : Int32) (u1_t_when : Nat → Int32) (k1_59 : Int32 → Int32 → Option (Int32 × (Nat → Int32) × (Nat → Int32))) : Nat → Int32 → Int32 → Option (Int32 × (Nat → Int32) × (Nat → Int32))
  | 0, _, _ => none
  | n1 + 1, x2_1, x1_1 =>
    (if 41 ≤ x2_1 then k1_59 x2_1 x1_1 else mX7_orderOf_L2 t_clauses u1_t_when x2_1 (fun (x3_2 : Int32) (x1_2 : Int32) => mX7_orderOf_L1 t_clauses u1_t_when k1_59 n1 (x2_1 + 1) x1_2) 300 0 x1_1)
def mX7_orderOf (t_clauses : Int32) (t_rains : Int32) (t_weekNext : Int32) (c_t_kinds : Nat → Int32) (c_t_deep : Nat → Int32) (c_t_leans : Nat → Int32) (c_t_moss : Nat → Int32) (c_t_rain : Nat → Int32) (c_t_mossThen : Nat → Int32) (c_t_when : Nat → Int32) : Option (Int32 × (Nat → Int32) × (Nat → Int32)) :=
  mw_b2 (mX7_layWhen t_clauses t_rains t_weekNext c_t_kinds c_t_deep c_t_leans c_t_moss c_t_rain c_t_mossThen c_t_when) fun u1_t_mossThen u1_t_when => mX7_orderOf_L1 t_clauses u1_t_when (fun (x2_1 : Int32) (x1_1 : Int32) => some (x1_1, u1_t_mossThen, u1_t_when)) 300 0 0
abbrev rmX7_orderOf : Room := ({ frames := 4, cells := 0, slots := 0, locals := 93 } : Room)
set_option maxHeartbeats 4000000 in
set_option maxRecDepth 100000 in
theorem kX7_orderOf (l : Launch) (D : va_G) (cA : ClassId) (t t_page t_kinds t_deep t_leans t_moss t_rain t_mossThen t_when t_sights t_keptKinds t_keptDeep t_keptLeans t_keptMoss t_keptSights : Nat) (sz : Nat) (t_pageMany : Int32) (t_end : Int32) (t_clauses : Int32) (t_rains : Int32) (t_weekNext : Int32) (t_breaths : Int32) (t_wallsRead : Int32) (t_needsDone : Int32) (t_seenMany : Int32) (t_seedNow : Int32) (t_keptWall : Int32) (t_keptWeek : Int32) (t_keptBreaths : Int32) (t_keptSeen : Int32) (t_hash : Int64) (c_t_kinds : Nat → Int32) (c_t_deep : Nat → Int32) (c_t_leans : Nat → Int32) (c_t_moss : Nat → Int32) (c_t_rain : Nat → Int32) (c_t_mossThen : Nat → Int32) (c_t_when : Nat → Int32) (r : Int32) (o_c_t_mossThen : Nat → Int32) (o_c_t_when : Nat → Int32) (hM : mX7_orderOf t_clauses t_rains t_weekNext c_t_kinds c_t_deep c_t_leans c_t_moss c_t_rain c_t_mossThen c_t_when = some (r, o_c_t_mossThen, o_c_t_when)) : Met l yX7_orderOf wsX7_orderOf rmX7_orderOf (va_Pc [.ref t] (fun U => U.heap.size = sz ∧ va_P D vwCl [(t, .inr (7, [.ref t_page, .int t_pageMany, .int t_end, .int t_clauses, .int t_rains, .int t_weekNext, .int t_breaths, .int t_wallsRead, .ref t_kinds, .ref t_deep, .ref t_leans, .ref t_moss, .ref t_rain, .ref t_mossThen, .ref t_when, .int t_needsDone, .int t_seenMany, .ref t_sights, .int t_seedNow, .int t_keptWall, .int t_keptWeek, .int t_keptBreaths, .int t_keptSeen, .ref t_keptKinds, .ref t_keptDeep, .ref t_keptLeans, .ref t_keptMoss, .ref t_keptSights, .long t_hash])), (t_kinds, .inl (cA, 6, .inl c_t_kinds)), (t_deep, .inl (cA, 6, .inl c_t_deep)), (t_leans, .inl (cA, 6, .inl c_t_leans)), (t_moss, .inl (cA, 6, .inl c_t_moss)), (t_rain, .inl (cA, 8, .inl c_t_rain)), (t_mossThen, .inl (cA, 6, .inl c_t_mossThen)), (t_when, .inl (cA, 6, .inl c_t_when))] U.heap ∧ mw_ev D cA U ∧ va_D (fun _ => True) [(t, .inr (7, [.ref t_page, .int t_pageMany, .int t_end, .int t_clauses, .int t_rains, .int t_weekNext, .int t_breaths, .int t_wallsRead, .ref t_kinds, .ref t_deep, .ref t_leans, .ref t_moss, .ref t_rain, .ref t_mossThen, .ref t_when, .int t_needsDone, .int t_seenMany, .ref t_sights, .int t_seedNow, .int t_keptWall, .int t_keptWeek, .int t_keptBreaths, .int t_keptSeen, .ref t_keptKinds, .ref t_keptDeep, .ref t_keptLeans, .ref t_keptMoss, .ref t_keptSights, .long t_hash])), (t_kinds, .inl (cA, 6, .inl c_t_kinds)), (t_deep, .inl (cA, 6, .inl c_t_deep)), (t_leans, .inl (cA, 6, .inl c_t_leans)), (t_moss, .inl (cA, 6, .inl c_t_moss)), (t_rain, .inl (cA, 8, .inl c_t_rain)), (t_mossThen, .inl (cA, 6, .inl c_t_mossThen)), (t_when, .inl (cA, 6, .inl c_t_when))])) (va_Qi (fun (v : Int32) (_ : Unit) => v = r) (fun (_ : Unit) w_ => va_P D vwCl [(t, .inr (7, [.ref t_page, .int t_pageMany, .int t_end, .int t_clauses, .int t_rains, .int t_weekNext, .int t_breaths, .int t_wallsRead, .ref t_kinds, .ref t_deep, .ref t_leans, .ref t_moss, .ref t_rain, .ref t_mossThen, .ref t_when, .int t_needsDone, .int t_seenMany, .ref t_sights, .int t_seedNow, .int t_keptWall, .int t_keptWeek, .int t_keptBreaths, .int t_keptSeen, .ref t_keptKinds, .ref t_keptDeep, .ref t_keptLeans, .ref t_keptMoss, .ref t_keptSights, .long t_hash])), (t_kinds, .inl (cA, 6, .inl c_t_kinds)), (t_deep, .inl (cA, 6, .inl c_t_deep)), (t_leans, .inl (cA, 6, .inl c_t_leans)), (t_moss, .inl (cA, 6, .inl c_t_moss)), (t_rain, .inl (cA, 8, .inl c_t_rain)), (t_mossThen, .inl (cA, 6, .inl o_c_t_mossThen)), (t_when, .inl (cA, 6, .inl o_c_t_when))] w_.heap ∧ va_D (va_A [(t, .inr (7, [.ref t_page, .int t_pageMany, .int t_end, .int t_clauses, .int t_rains, .int t_weekNext, .int t_breaths, .int t_wallsRead, .ref t_kinds, .ref t_deep, .ref t_leans, .ref t_moss, .ref t_rain, .ref t_mossThen, .ref t_when, .int t_needsDone, .int t_seenMany, .ref t_sights, .int t_seedNow, .int t_keptWall, .int t_keptWeek, .int t_keptBreaths, .int t_keptSeen, .ref t_keptKinds, .ref t_keptDeep, .ref t_keptLeans, .ref t_keptMoss, .ref t_keptSights, .long t_hash])), (t_kinds, .inl (cA, 6, .inl c_t_kinds)), (t_deep, .inl (cA, 6, .inl c_t_deep)), (t_leans, .inl (cA, 6, .inl c_t_leans)), (t_moss, .inl (cA, 6, .inl c_t_moss)), (t_rain, .inl (cA, 8, .inl c_t_rain)), (t_mossThen, .inl (cA, 6, .inl c_t_mossThen)), (t_when, .inl (cA, 6, .inl c_t_when))] sz) [(t, .inr (7, [.ref t_page, .int t_pageMany, .int t_end, .int t_clauses, .int t_rains, .int t_weekNext, .int t_breaths, .int t_wallsRead, .ref t_kinds, .ref t_deep, .ref t_leans, .ref t_moss, .ref t_rain, .ref t_mossThen, .ref t_when, .int t_needsDone, .int t_seenMany, .ref t_sights, .int t_seedNow, .int t_keptWall, .int t_keptWeek, .int t_keptBreaths, .int t_keptSeen, .ref t_keptKinds, .ref t_keptDeep, .ref t_keptLeans, .ref t_keptMoss, .ref t_keptSights, .long t_hash])), (t_kinds, .inl (cA, 6, .inl c_t_kinds)), (t_deep, .inl (cA, 6, .inl c_t_deep)), (t_leans, .inl (cA, 6, .inl c_t_leans)), (t_moss, .inl (cA, 6, .inl c_t_moss)), (t_rain, .inl (cA, 8, .inl c_t_rain)), (t_mossThen, .inl (cA, 6, .inl o_c_t_mossThen)), (t_when, .inl (cA, 6, .inl o_c_t_when))]) (va_A [(t, .inr (7, [.ref t_page, .int t_pageMany, .int t_end, .int t_clauses, .int t_rains, .int t_weekNext, .int t_breaths, .int t_wallsRead, .ref t_kinds, .ref t_deep, .ref t_leans, .ref t_moss, .ref t_rain, .ref t_mossThen, .ref t_when, .int t_needsDone, .int t_seenMany, .ref t_sights, .int t_seedNow, .int t_keptWall, .int t_keptWeek, .int t_keptBreaths, .int t_keptSeen, .ref t_keptKinds, .ref t_keptDeep, .ref t_keptLeans, .ref t_keptMoss, .ref t_keptSights, .long t_hash])), (t_kinds, .inl (cA, 6, .inl c_t_kinds)), (t_deep, .inl (cA, 6, .inl c_t_deep)), (t_leans, .inl (cA, 6, .inl c_t_leans)), (t_moss, .inl (cA, 6, .inl c_t_moss)), (t_rain, .inl (cA, 8, .inl c_t_rain)), (t_mossThen, .inl (cA, 6, .inl c_t_mossThen)), (t_when, .inl (cA, 6, .inl c_t_when))] sz)) 0 0 (va_A [(t, .inr (7, [.ref t_page, .int t_pageMany, .int t_end, .int t_clauses, .int t_rains, .int t_weekNext, .int t_breaths, .int t_wallsRead, .ref t_kinds, .ref t_deep, .ref t_leans, .ref t_moss, .ref t_rain, .ref t_mossThen, .ref t_when, .int t_needsDone, .int t_seenMany, .ref t_sights, .int t_seedNow, .int t_keptWall, .int t_keptWeek, .int t_keptBreaths, .int t_keptSeen, .ref t_keptKinds, .ref t_keptDeep, .ref t_keptLeans, .ref t_keptMoss, .ref t_keptSights, .long t_hash])), (t_kinds, .inl (cA, 6, .inl c_t_kinds)), (t_deep, .inl (cA, 6, .inl c_t_deep)), (t_leans, .inl (cA, 6, .inl c_t_leans)), (t_moss, .inl (cA, 6, .inl c_t_moss)), (t_rain, .inl (cA, 8, .inl c_t_rain)), (t_mossThen, .inl (cA, 6, .inl c_t_mossThen)), (t_when, .inl (cA, 6, .inl c_t_when))] sz) := by
  unfold mX7_orderOf at hM
  refine Met.ofW (cc := cX7_orderOf) (maxL := 4) (ret := (some .int)) (by decide) rfl ?_
  intro p e s m args below meth c s₁ B hml hv
  obtain ⟨rfl, hsz, hP, hE, hD0⟩ := hv
  have hx := B.exec
  have hb := B.bytes
  have hr := B.returns
  have hts := atoms_spec (ws := wsX7_orderOf) B.pre
  have hown : s.vm.findClass RX7 = some m.cls := findClass_of_methodNamed B.named
  have hlocks := B.notSynchronized
  have hK := hE.1
  subst hsz
  have hD := hD0.self (sz := s.heap.size)
  generalize hAe : va_A [(t, .inr (7, [.ref t_page, .int t_pageMany, .int t_end, .int t_clauses, .int t_rains, .int t_weekNext, .int t_breaths, .int t_wallsRead, .ref t_kinds, .ref t_deep, .ref t_leans, .ref t_moss, .ref t_rain, .ref t_mossThen, .ref t_when, .int t_needsDone, .int t_seenMany, .ref t_sights, .int t_seedNow, .int t_keptWall, .int t_keptWeek, .int t_keptBreaths, .int t_keptSeen, .ref t_keptKinds, .ref t_keptDeep, .ref t_keptLeans, .ref t_keptMoss, .ref t_keptSights, .long t_hash])), (t_kinds, .inl (cA, 6, .inl c_t_kinds)), (t_deep, .inl (cA, 6, .inl c_t_deep)), (t_leans, .inl (cA, 6, .inl c_t_leans)), (t_moss, .inl (cA, 6, .inl c_t_moss)), (t_rain, .inl (cA, 8, .inl c_t_rain)), (t_mossThen, .inl (cA, 6, .inl c_t_mossThen)), (t_when, .inl (cA, 6, .inl c_t_when))] s.heap.size = A at hD ⊢
  have hA : ∀ q : Nat, s.heap.size ≤ q → A q := fun q h => by rw [← hAe]; exact Or.inr h
  have hS : va_S A s.heap s.heap [] := va_S.rf
  have hl := lv_entry ([.ref t]) (n := 4) (Nat.le_of_ble_eq_true rfl)
  rw [lg_entry_eq]
  generalize (lg_sl ([.ref t]) ++ List.replicate (4 - (lg_sl ([.ref t])).length) Slot.unset).toArray = ls at hl ⊢
  have hl : lv_has ls 4 [(0, .ref t)] := hl
  refine mw_q (P := fun Q => W p l e (headSpec wsX7_orderOf rmX7_orderOf).room s m (([.ref t] : List Value).toArray) below meth c s.heap [] 0 0 Q (F0 m 0 ls [])) (fun Q hQ => ?_)
  refine lv_aload_n hx hb dX7_orderOf_0 rfl (lv_at hl 0 rfl) ?_
  obtain ⟨u1_t_mossThen, u1_t_when, h1, hM⟩ := mw_d2 hM
  have hPc := hP.sub (ws' := [(t, .inr (7, [.ref t_page, .int t_pageMany, .int t_end, .int t_clauses, .int t_rains, .int t_weekNext, .int t_breaths, .int t_wallsRead, .ref t_kinds, .ref t_deep, .ref t_leans, .ref t_moss, .ref t_rain, .ref t_mossThen, .ref t_when, .int t_needsDone, .int t_seenMany, .ref t_sights, .int t_seedNow, .int t_keptWall, .int t_keptWeek, .int t_keptBreaths, .int t_keptSeen, .ref t_keptKinds, .ref t_keptDeep, .ref t_keptLeans, .ref t_keptMoss, .ref t_keptSights, .long t_hash])), (t_kinds, .inl (cA, 6, .inl c_t_kinds)), (t_deep, .inl (cA, 6, .inl c_t_deep)), (t_leans, .inl (cA, 6, .inl c_t_leans)), (t_moss, .inl (cA, 6, .inl c_t_moss)), (t_rain, .inl (cA, 8, .inl c_t_rain)), (t_mossThen, .inl (cA, 6, .inl c_t_mossThen)), (t_when, .inl (cA, 6, .inl c_t_when))]) [0, 1, 2, 3, 4, 5, 6, 7] rfl
  have hDc := hD.sub (ws' := [(t, .inr (7, [.ref t_page, .int t_pageMany, .int t_end, .int t_clauses, .int t_rains, .int t_weekNext, .int t_breaths, .int t_wallsRead, .ref t_kinds, .ref t_deep, .ref t_leans, .ref t_moss, .ref t_rain, .ref t_mossThen, .ref t_when, .int t_needsDone, .int t_seenMany, .ref t_sights, .int t_seedNow, .int t_keptWall, .int t_keptWeek, .int t_keptBreaths, .int t_keptSeen, .ref t_keptKinds, .ref t_keptDeep, .ref t_keptLeans, .ref t_keptMoss, .ref t_keptSights, .long t_hash])), (t_kinds, .inl (cA, 6, .inl c_t_kinds)), (t_deep, .inl (cA, 6, .inl c_t_deep)), (t_leans, .inl (cA, 6, .inl c_t_leans)), (t_moss, .inl (cA, 6, .inl c_t_moss)), (t_rain, .inl (cA, 8, .inl c_t_rain)), (t_mossThen, .inl (cA, 6, .inl c_t_mossThen)), (t_when, .inl (cA, 6, .inl c_t_when))]) [0, 1, 2, 3, 4, 5, 6, 7] (by decide) rfl
  have hFc := va_free (wc := [(t, .inr (7, [.ref t_page, .int t_pageMany, .int t_end, .int t_clauses, .int t_rains, .int t_weekNext, .int t_breaths, .int t_wallsRead, .ref t_kinds, .ref t_deep, .ref t_leans, .ref t_moss, .ref t_rain, .ref t_mossThen, .ref t_when, .int t_needsDone, .int t_seenMany, .ref t_sights, .int t_seedNow, .int t_keptWall, .int t_keptWeek, .int t_keptBreaths, .int t_keptSeen, .ref t_keptKinds, .ref t_keptDeep, .ref t_keptLeans, .ref t_keptMoss, .ref t_keptSights, .long t_hash])), (t_kinds, .inl (cA, 6, .inl c_t_kinds)), (t_deep, .inl (cA, 6, .inl c_t_deep)), (t_leans, .inl (cA, 6, .inl c_t_leans)), (t_moss, .inl (cA, 6, .inl c_t_moss)), (t_rain, .inl (cA, 8, .inl c_t_rain)), (t_mossThen, .inl (cA, 6, .inl c_t_mossThen)), (t_when, .inl (cA, 6, .inl c_t_when))]) hD hS hA [0, 1, 2, 3, 4, 5, 6, 7] rfl
  refine va_callv (va_runV (As := []) (rest := []) ⟨hx, hb, hml, hown, hts⟩ (kX7_layWhen l D cA t t_page t_kinds t_deep t_leans t_moss t_rain t_mossThen t_when t_sights t_keptKinds t_keptDeep t_keptLeans t_keptMoss t_keptSights _ t_pageMany t_end t_clauses t_rains t_weekNext t_breaths t_wallsRead t_needsDone t_seenMany t_seedNow t_keptWall t_keptWeek t_keptBreaths t_keptSeen t_hash c_t_kinds c_t_deep c_t_leans c_t_moss c_t_rain c_t_mossThen c_t_when u1_t_mossThen u1_t_when h1) (cwV 0 hts gX7_orderOf_X7_layWhen rfl rfl rfl (by decide +kernel) ⟨Nat.le_of_ble_eq_true rfl, Nat.le_of_ble_eq_true rfl⟩) ⟨mw_fbW, va_recv hK hP (ci := 7) (q0 := 0) rfl rfl, mw_puW hPc hE hDc⟩ rfl rfl hl.1 rfl (lv_room (Nat.le_of_ble_eq_true rfl)) dX7_orderOf_1 ⟨Nat.zero_le _, Nat.zero_le _⟩) hS (fun q _ h => hFc q h) hFc (fun _ t_ H locs ht_ _ _ hB_ _ hk_ hS => ?_)
  obtain ⟨hP1, hD1⟩ := hB_
  rw [ht_] at hP1
  obtain ⟨hP, hD⟩ := va_join (wr := []) (w1 := [(t, .inr (7, [.ref t_page, .int t_pageMany, .int t_end, .int t_clauses, .int t_rains, .int t_weekNext, .int t_breaths, .int t_wallsRead, .ref t_kinds, .ref t_deep, .ref t_leans, .ref t_moss, .ref t_rain, .ref t_mossThen, .ref t_when, .int t_needsDone, .int t_seenMany, .ref t_sights, .int t_seedNow, .int t_keptWall, .int t_keptWeek, .int t_keptBreaths, .int t_keptSeen, .ref t_keptKinds, .ref t_keptDeep, .ref t_keptLeans, .ref t_keptMoss, .ref t_keptSights, .long t_hash])), (t_kinds, .inl (cA, 6, .inl c_t_kinds)), (t_deep, .inl (cA, 6, .inl c_t_deep)), (t_leans, .inl (cA, 6, .inl c_t_leans)), (t_moss, .inl (cA, 6, .inl c_t_moss)), (t_rain, .inl (cA, 8, .inl c_t_rain)), (t_mossThen, .inl (cA, 6, .inl u1_t_mossThen)), (t_when, .inl (cA, 6, .inl u1_t_when))]) hP hD [0, 1, 2, 3, 4, 5, 6, 7] [] rfl rfl (by decide) (by decide) hk_ hFc hP1 hD1
  have hP : va_P D vwCl [(t, .inr (7, [.ref t_page, .int t_pageMany, .int t_end, .int t_clauses, .int t_rains, .int t_weekNext, .int t_breaths, .int t_wallsRead, .ref t_kinds, .ref t_deep, .ref t_leans, .ref t_moss, .ref t_rain, .ref t_mossThen, .ref t_when, .int t_needsDone, .int t_seenMany, .ref t_sights, .int t_seedNow, .int t_keptWall, .int t_keptWeek, .int t_keptBreaths, .int t_keptSeen, .ref t_keptKinds, .ref t_keptDeep, .ref t_keptLeans, .ref t_keptMoss, .ref t_keptSights, .long t_hash])), (t_kinds, .inl (cA, 6, .inl c_t_kinds)), (t_deep, .inl (cA, 6, .inl c_t_deep)), (t_leans, .inl (cA, 6, .inl c_t_leans)), (t_moss, .inl (cA, 6, .inl c_t_moss)), (t_rain, .inl (cA, 8, .inl c_t_rain)), (t_mossThen, .inl (cA, 6, .inl u1_t_mossThen)), (t_when, .inl (cA, 6, .inl u1_t_when))] H := hP
  have hD : va_D A [(t, .inr (7, [.ref t_page, .int t_pageMany, .int t_end, .int t_clauses, .int t_rains, .int t_weekNext, .int t_breaths, .int t_wallsRead, .ref t_kinds, .ref t_deep, .ref t_leans, .ref t_moss, .ref t_rain, .ref t_mossThen, .ref t_when, .int t_needsDone, .int t_seenMany, .ref t_sights, .int t_seedNow, .int t_keptWall, .int t_keptWeek, .int t_keptBreaths, .int t_keptSeen, .ref t_keptKinds, .ref t_keptDeep, .ref t_keptLeans, .ref t_keptMoss, .ref t_keptSights, .long t_hash])), (t_kinds, .inl (cA, 6, .inl c_t_kinds)), (t_deep, .inl (cA, 6, .inl c_t_deep)), (t_leans, .inl (cA, 6, .inl c_t_leans)), (t_moss, .inl (cA, 6, .inl c_t_moss)), (t_rain, .inl (cA, 8, .inl c_t_rain)), (t_mossThen, .inl (cA, 6, .inl u1_t_mossThen)), (t_when, .inl (cA, 6, .inl u1_t_when))] := hD
  refine lv_iconst (v := 0) hx hb dX7_orderOf_4 (by decide) ?_
  refine lv_istore_n (lv' := [(1, .int 0), (0, .ref t)]) hx hb dX7_orderOf_5 rfl hl (by decide) rfl (fun ls hl => ?_)
  refine lv_iconst (v := 0) hx hb dX7_orderOf_6 (by decide) ?_
  refine lv_istore_n (lv' := [(2, .int 0), (1, .int 0), (0, .ref t)]) hx hb dX7_orderOf_7 rfl hl (by decide) rfl (fun ls hl => ?_)
  obtain ⟨k1_59, jk1_59⟩ : ∃ k : Int32 → Int32 → Option (Int32 × (Nat → Int32) × (Nat → Int32)), k = fun (x2_1 : Int32) (x1_1 : Int32) => some (x1_1, u1_t_mossThen, u1_t_when) := ⟨_, rfl⟩
  have Ek1_59 : ∀ (x2_1 : Int32) (x1_1 : Int32) (H : Heap) (locs : List Loc) (ls : Array Slot), va_P D vwCl [(t, .inr (7, [.ref t_page, .int t_pageMany, .int t_end, .int t_clauses, .int t_rains, .int t_weekNext, .int t_breaths, .int t_wallsRead, .ref t_kinds, .ref t_deep, .ref t_leans, .ref t_moss, .ref t_rain, .ref t_mossThen, .ref t_when, .int t_needsDone, .int t_seenMany, .ref t_sights, .int t_seedNow, .int t_keptWall, .int t_keptWeek, .int t_keptBreaths, .int t_keptSeen, .ref t_keptKinds, .ref t_keptDeep, .ref t_keptLeans, .ref t_keptMoss, .ref t_keptSights, .long t_hash])), (t_kinds, .inl (cA, 6, .inl c_t_kinds)), (t_deep, .inl (cA, 6, .inl c_t_deep)), (t_leans, .inl (cA, 6, .inl c_t_leans)), (t_moss, .inl (cA, 6, .inl c_t_moss)), (t_rain, .inl (cA, 8, .inl c_t_rain)), (t_mossThen, .inl (cA, 6, .inl u1_t_mossThen)), (t_when, .inl (cA, 6, .inl u1_t_when))] H → va_D A [(t, .inr (7, [.ref t_page, .int t_pageMany, .int t_end, .int t_clauses, .int t_rains, .int t_weekNext, .int t_breaths, .int t_wallsRead, .ref t_kinds, .ref t_deep, .ref t_leans, .ref t_moss, .ref t_rain, .ref t_mossThen, .ref t_when, .int t_needsDone, .int t_seenMany, .ref t_sights, .int t_seedNow, .int t_keptWall, .int t_keptWeek, .int t_keptBreaths, .int t_keptSeen, .ref t_keptKinds, .ref t_keptDeep, .ref t_keptLeans, .ref t_keptMoss, .ref t_keptSights, .long t_hash])), (t_kinds, .inl (cA, 6, .inl c_t_kinds)), (t_deep, .inl (cA, 6, .inl c_t_deep)), (t_leans, .inl (cA, 6, .inl c_t_leans)), (t_moss, .inl (cA, 6, .inl c_t_moss)), (t_rain, .inl (cA, 8, .inl c_t_rain)), (t_mossThen, .inl (cA, 6, .inl u1_t_mossThen)), (t_when, .inl (cA, 6, .inl u1_t_when))] → va_S A s.heap H locs → lv_has ls 4 [(2, .int x2_1), (1, .int x1_1), (0, .ref t)] → k1_59 x2_1 x1_1 = some (r, o_c_t_mossThen, o_c_t_when) → W p l e (headSpec wsX7_orderOf rmX7_orderOf).room s m (([.ref t] : List Value).toArray) below meth c H locs 0 0 Q (F0 m 59 ls []) := by
      intro x2_1 x1_1 H locs ls hP hD hS hl hM
      rw [jk1_59] at hM
      refine lv_iload_n hx hb dX7_orderOf_59 rfl (lv_at hl 1 rfl) ?_
      obtain ⟨rfl, rfl, rfl⟩ := mw_o3 hM
      subst hQ
      exact W.iret hx hb hr (fun t ht hW => ⟨⟨_, (), rfl, rfl, by rw [ht]; exact hP, hD⟩, hS.F ht⟩) hS.2.2 dX7_orderOf_60
  have L1 : ∀ (n1 : Nat) (x2_1 : Int32) (x1_1 : Int32) (H : Heap) (locs : List Loc) (ls : Array Slot), va_P D vwCl [(t, .inr (7, [.ref t_page, .int t_pageMany, .int t_end, .int t_clauses, .int t_rains, .int t_weekNext, .int t_breaths, .int t_wallsRead, .ref t_kinds, .ref t_deep, .ref t_leans, .ref t_moss, .ref t_rain, .ref t_mossThen, .ref t_when, .int t_needsDone, .int t_seenMany, .ref t_sights, .int t_seedNow, .int t_keptWall, .int t_keptWeek, .int t_keptBreaths, .int t_keptSeen, .ref t_keptKinds, .ref t_keptDeep, .ref t_keptLeans, .ref t_keptMoss, .ref t_keptSights, .long t_hash])), (t_kinds, .inl (cA, 6, .inl c_t_kinds)), (t_deep, .inl (cA, 6, .inl c_t_deep)), (t_leans, .inl (cA, 6, .inl c_t_leans)), (t_moss, .inl (cA, 6, .inl c_t_moss)), (t_rain, .inl (cA, 8, .inl c_t_rain)), (t_mossThen, .inl (cA, 6, .inl u1_t_mossThen)), (t_when, .inl (cA, 6, .inl u1_t_when))] H → va_D A [(t, .inr (7, [.ref t_page, .int t_pageMany, .int t_end, .int t_clauses, .int t_rains, .int t_weekNext, .int t_breaths, .int t_wallsRead, .ref t_kinds, .ref t_deep, .ref t_leans, .ref t_moss, .ref t_rain, .ref t_mossThen, .ref t_when, .int t_needsDone, .int t_seenMany, .ref t_sights, .int t_seedNow, .int t_keptWall, .int t_keptWeek, .int t_keptBreaths, .int t_keptSeen, .ref t_keptKinds, .ref t_keptDeep, .ref t_keptLeans, .ref t_keptMoss, .ref t_keptSights, .long t_hash])), (t_kinds, .inl (cA, 6, .inl c_t_kinds)), (t_deep, .inl (cA, 6, .inl c_t_deep)), (t_leans, .inl (cA, 6, .inl c_t_leans)), (t_moss, .inl (cA, 6, .inl c_t_moss)), (t_rain, .inl (cA, 8, .inl c_t_rain)), (t_mossThen, .inl (cA, 6, .inl u1_t_mossThen)), (t_when, .inl (cA, 6, .inl u1_t_when))] → va_S A s.heap H locs → lv_has ls 4 [(2, .int x2_1), (1, .int x1_1), (0, .ref t)] → mX7_orderOf_L1 t_clauses u1_t_when k1_59 n1 x2_1 x1_1 = some (r, o_c_t_mossThen, o_c_t_when) → W p l e (headSpec wsX7_orderOf rmX7_orderOf).room s m (([.ref t] : List Value).toArray) below meth c H locs 0 0 Q (F0 m 8 ls []) := by
      intro n1
      induction n1 with
      | zero =>
        intro x2_1 x1_1 H locs ls hP hD hS hl hM
        rw [mX7_orderOf_L1] at hM
        exact mw_none hM
      | succ n1 ih1 =>
        intro x2_1 x1_1 H locs ls hP hD hS hl hM
        rw [mX7_orderOf_L1] at hM
        refine lv_iload_n hx hb dX7_orderOf_8 rfl (lv_at hl 0 rfl) ?_
        refine lv_bipush (v := 41) hx hb dX7_orderOf_9 (by decide) ?_
        refine lv_icmp_ge (tgt := 59) hx hb dX7_orderOf_11 (by decide) (fun q2 => ?_) (fun q2 => ?_)
        · replace hM := mw_t hM q2
          exact Ek1_59 x2_1 x1_1 _ _ _ hP hD hS (lv_sub hl [0, 1, 2] rfl) hM
        · replace hM := mw_f hM q2
          refine lv_iconst (v := 0) hx hb dX7_orderOf_14 (by decide) ?_
          refine lv_istore_n (lv' := [(3, .int 0), (2, .int x2_1), (1, .int x1_1), (0, .ref t)]) hx hb dX7_orderOf_15 rfl hl (by decide) rfl (fun ls hl => ?_)
          obtain ⟨k2_53, jk2_53⟩ : ∃ k : Int32 → Int32 → Option (Int32 × (Nat → Int32) × (Nat → Int32)), k = fun (x3_2 : Int32) (x1_2 : Int32) => mX7_orderOf_L1 t_clauses u1_t_when k1_59 n1 (x2_1 + 1) x1_2 := ⟨_, rfl⟩
          have Ek2_53 : ∀ (x3_2 : Int32) (x1_2 : Int32) (H : Heap) (locs : List Loc) (ls : Array Slot), va_P D vwCl [(t, .inr (7, [.ref t_page, .int t_pageMany, .int t_end, .int t_clauses, .int t_rains, .int t_weekNext, .int t_breaths, .int t_wallsRead, .ref t_kinds, .ref t_deep, .ref t_leans, .ref t_moss, .ref t_rain, .ref t_mossThen, .ref t_when, .int t_needsDone, .int t_seenMany, .ref t_sights, .int t_seedNow, .int t_keptWall, .int t_keptWeek, .int t_keptBreaths, .int t_keptSeen, .ref t_keptKinds, .ref t_keptDeep, .ref t_keptLeans, .ref t_keptMoss, .ref t_keptSights, .long t_hash])), (t_kinds, .inl (cA, 6, .inl c_t_kinds)), (t_deep, .inl (cA, 6, .inl c_t_deep)), (t_leans, .inl (cA, 6, .inl c_t_leans)), (t_moss, .inl (cA, 6, .inl c_t_moss)), (t_rain, .inl (cA, 8, .inl c_t_rain)), (t_mossThen, .inl (cA, 6, .inl u1_t_mossThen)), (t_when, .inl (cA, 6, .inl u1_t_when))] H → va_D A [(t, .inr (7, [.ref t_page, .int t_pageMany, .int t_end, .int t_clauses, .int t_rains, .int t_weekNext, .int t_breaths, .int t_wallsRead, .ref t_kinds, .ref t_deep, .ref t_leans, .ref t_moss, .ref t_rain, .ref t_mossThen, .ref t_when, .int t_needsDone, .int t_seenMany, .ref t_sights, .int t_seedNow, .int t_keptWall, .int t_keptWeek, .int t_keptBreaths, .int t_keptSeen, .ref t_keptKinds, .ref t_keptDeep, .ref t_keptLeans, .ref t_keptMoss, .ref t_keptSights, .long t_hash])), (t_kinds, .inl (cA, 6, .inl c_t_kinds)), (t_deep, .inl (cA, 6, .inl c_t_deep)), (t_leans, .inl (cA, 6, .inl c_t_leans)), (t_moss, .inl (cA, 6, .inl c_t_moss)), (t_rain, .inl (cA, 8, .inl c_t_rain)), (t_mossThen, .inl (cA, 6, .inl u1_t_mossThen)), (t_when, .inl (cA, 6, .inl u1_t_when))] → va_S A s.heap H locs → lv_has ls 4 [(3, .int x3_2), (2, .int x2_1), (1, .int x1_2), (0, .ref t)] → k2_53 x3_2 x1_2 = some (r, o_c_t_mossThen, o_c_t_when) → W p l e (headSpec wsX7_orderOf rmX7_orderOf).room s m (([.ref t] : List Value).toArray) below meth c H locs 0 0 Q (F0 m 53 ls []) := by
              intro x3_2 x1_2 H locs ls hP hD hS hl hM
              rw [jk2_53] at hM
              refine lv_iinc (v := x2_1 + 1) (lv' := [(2, .int (x2_1 + 1)), (3, .int x3_2), (1, .int x1_2), (0, .ref t)]) hx hb dX7_orderOf_53 hl (k := 1) rfl (by first | rfl | decide) (by decide) rfl (fun ls hl => ?_)
              refine lv_goto (tgt := 8) hx hb dX7_orderOf_56 (by decide) ?_
              exact ih1 (x2_1 + 1) x1_2 _ _ _ hP hD hS (lv_sub hl [0, 2, 3] rfl) hM
          have L2 : ∀ (n2 : Nat) (x3_2 : Int32) (x1_2 : Int32) (H : Heap) (locs : List Loc) (ls : Array Slot), va_P D vwCl [(t, .inr (7, [.ref t_page, .int t_pageMany, .int t_end, .int t_clauses, .int t_rains, .int t_weekNext, .int t_breaths, .int t_wallsRead, .ref t_kinds, .ref t_deep, .ref t_leans, .ref t_moss, .ref t_rain, .ref t_mossThen, .ref t_when, .int t_needsDone, .int t_seenMany, .ref t_sights, .int t_seedNow, .int t_keptWall, .int t_keptWeek, .int t_keptBreaths, .int t_keptSeen, .ref t_keptKinds, .ref t_keptDeep, .ref t_keptLeans, .ref t_keptMoss, .ref t_keptSights, .long t_hash])), (t_kinds, .inl (cA, 6, .inl c_t_kinds)), (t_deep, .inl (cA, 6, .inl c_t_deep)), (t_leans, .inl (cA, 6, .inl c_t_leans)), (t_moss, .inl (cA, 6, .inl c_t_moss)), (t_rain, .inl (cA, 8, .inl c_t_rain)), (t_mossThen, .inl (cA, 6, .inl u1_t_mossThen)), (t_when, .inl (cA, 6, .inl u1_t_when))] H → va_D A [(t, .inr (7, [.ref t_page, .int t_pageMany, .int t_end, .int t_clauses, .int t_rains, .int t_weekNext, .int t_breaths, .int t_wallsRead, .ref t_kinds, .ref t_deep, .ref t_leans, .ref t_moss, .ref t_rain, .ref t_mossThen, .ref t_when, .int t_needsDone, .int t_seenMany, .ref t_sights, .int t_seedNow, .int t_keptWall, .int t_keptWeek, .int t_keptBreaths, .int t_keptSeen, .ref t_keptKinds, .ref t_keptDeep, .ref t_keptLeans, .ref t_keptMoss, .ref t_keptSights, .long t_hash])), (t_kinds, .inl (cA, 6, .inl c_t_kinds)), (t_deep, .inl (cA, 6, .inl c_t_deep)), (t_leans, .inl (cA, 6, .inl c_t_leans)), (t_moss, .inl (cA, 6, .inl c_t_moss)), (t_rain, .inl (cA, 8, .inl c_t_rain)), (t_mossThen, .inl (cA, 6, .inl u1_t_mossThen)), (t_when, .inl (cA, 6, .inl u1_t_when))] → va_S A s.heap H locs → lv_has ls 4 [(3, .int x3_2), (2, .int x2_1), (1, .int x1_2), (0, .ref t)] → mX7_orderOf_L2 t_clauses u1_t_when x2_1 k2_53 n2 x3_2 x1_2 = some (r, o_c_t_mossThen, o_c_t_when) → W p l e (headSpec wsX7_orderOf rmX7_orderOf).room s m (([.ref t] : List Value).toArray) below meth c H locs 0 0 Q (F0 m 16 ls []) := by
              intro n2
              induction n2 with
              | zero =>
                intro x3_2 x1_2 H locs ls hP hD hS hl hM
                rw [mX7_orderOf_L2] at hM
                exact mw_none hM
              | succ n2 ih2 =>
                intro x3_2 x1_2 H locs ls hP hD hS hl hM
                rw [mX7_orderOf_L2] at hM
                refine lv_iload_n hx hb dX7_orderOf_16 rfl (lv_at hl 0 rfl) ?_
                refine lv_aload_n hx hb dX7_orderOf_17 rfl (lv_at hl 3 rfl) ?_
                refine va_get (D := D) (ci := 7) (v := .int t_clauses) (C := RX7) (T := TX7) (N := 29) hx hb hts (fun _ h => List.mem_cons_of_mem _ (List.mem_append_right _ (h))) hown hK hP 0 rfl rfl 3 (by decide) (hts (.fieldLink RX7 88 "MossWallModel" "clauses" "I") (List.mem_cons_of_mem _ (List.mem_append_left _ (List.mem_append_left _ (List.mem_of_getElem? (i := 0) rfl))))) (fun _ h9 => h9) rfl dX7_orderOf_18 ?_
                refine lv_icmp_ge (tgt := 53) hx hb dX7_orderOf_21 (by decide) (fun q3 => ?_) (fun q3 => ?_)
                · replace hM := mw_t hM q3
                  exact Ek2_53 x3_2 x1_2 _ _ _ hP hD hS (lv_sub hl [0, 1, 2, 3] rfl) hM
                · replace hM := mw_f hM q3
                  refine lv_aload_n hx hb dX7_orderOf_24 rfl (lv_at hl 3 rfl) ?_
                  refine va_get (D := D) (ci := 7) (v := .ref t_when) (C := RX7) (T := TX7) (N := 29) hx hb hts (fun _ h => List.mem_cons_of_mem _ (List.mem_append_right _ (h))) hown hK hP 0 rfl rfl 14 (by decide) (hts (.fieldLink RX7 31 "MossWallModel" "when" "[I") (List.mem_cons_of_mem _ (List.mem_append_left _ (List.mem_append_left _ (List.mem_of_getElem? (i := 1) rfl))))) (fun _ h9 => h9) rfl dX7_orderOf_25 ?_
                  refine lv_iload_n hx hb dX7_orderOf_28 rfl (lv_at hl 0 rfl) ?_
                  obtain ⟨e4, h4, hM⟩ := mw_d1 hM
                  refine mw_iald hx hb hK hP 7 0 rfl rfl h4 dX7_orderOf_29 ?_
                  refine lv_iload_n hx hb dX7_orderOf_30 rfl (lv_at hl 1 rfl) ?_
                  refine lv_icmp_ne (tgt := 45) hx hb dX7_orderOf_31 (by decide) (fun q5 => ?_) (fun q5 => ?_)
                  · replace hM := mw_f hM q5
                    refine lv_iload_n hx hb dX7_orderOf_45 rfl (lv_at hl 2 rfl) ?_
                    refine lv_istore_n (lv' := [(1, .int x1_2), (3, .int x3_2), (2, .int x2_1), (0, .ref t)]) hx hb dX7_orderOf_46 rfl hl (by decide) rfl (fun ls hl => ?_)
                    refine lv_iinc (v := x3_2 + 1) (lv' := [(3, .int (x3_2 + 1)), (1, .int x1_2), (2, .int x2_1), (0, .ref t)]) hx hb dX7_orderOf_47 hl (k := 1) rfl (by first | rfl | decide) (by decide) rfl (fun ls hl => ?_)
                    refine lv_goto (tgt := 16) hx hb dX7_orderOf_50 (by decide) ?_
                    exact ih2 (x3_2 + 1) x1_2 _ _ _ hP hD hS (lv_sub hl [0, 2, 1, 3] rfl) hM
                  · replace hM := mw_t hM q5
                    refine lv_bipush (v := 10) hx hb dX7_orderOf_34 (by decide) ?_
                    refine lv_iload_n hx hb dX7_orderOf_36 rfl (lv_at hl 2 rfl) ?_
                    refine lv_imul hx hb dX7_orderOf_37 ?_
                    refine lv_iload_n hx hb dX7_orderOf_38 rfl (lv_at hl 0 rfl) ?_
                    refine lv_iadd hx hb dX7_orderOf_39 ?_
                    refine lv_iconst (v := 1) hx hb dX7_orderOf_40 (by decide) ?_
                    refine lv_iadd hx hb dX7_orderOf_41 ?_
                    refine lv_goto (tgt := 46) hx hb dX7_orderOf_42 (by decide) ?_
                    refine lv_istore_n (lv' := [(1, .int (((10 * x1_2) + x3_2) + 1)), (3, .int x3_2), (2, .int x2_1), (0, .ref t)]) hx hb dX7_orderOf_46 rfl hl (by decide) rfl (fun ls hl => ?_)
                    refine lv_iinc (v := x3_2 + 1) (lv' := [(3, .int (x3_2 + 1)), (1, .int (((10 * x1_2) + x3_2) + 1)), (2, .int x2_1), (0, .ref t)]) hx hb dX7_orderOf_47 hl (k := 1) rfl (by first | rfl | decide) (by decide) rfl (fun ls hl => ?_)
                    refine lv_goto (tgt := 16) hx hb dX7_orderOf_50 (by decide) ?_
                    exact ih2 (x3_2 + 1) (((10 * x1_2) + x3_2) + 1) _ _ _ hP hD hS (lv_sub hl [0, 2, 1, 3] rfl) hM
          exact L2 300 0 x1_1 _ _ _ hP hD hS hl (by rw [jk2_53]; exact hM)
  exact L1 300 0 0 _ _ _ hP hD hS hl (by rw [jk1_59]; exact hM)
def mX7_order (t_clauses : Int32) (t_rains : Int32) (t_weekNext : Int32) (c_t_kinds : Nat → Int32) (c_t_deep : Nat → Int32) (c_t_leans : Nat → Int32) (c_t_moss : Nat → Int32) (c_t_rain : Nat → Int32) (c_t_mossThen : Nat → Int32) (c_t_when : Nat → Int32) : Option (Int32 × (Nat → Int32) × (Nat → Int32)) :=
  (mX7_lacks t_clauses).bind fun r1 => (if r1 = 0 then mw_b3 (mX7_orderOf t_clauses t_rains t_weekNext c_t_kinds c_t_deep c_t_leans c_t_moss c_t_rain c_t_mossThen c_t_when) fun r3 u3_t_mossThen u3_t_when => some (r3, u3_t_mossThen, u3_t_when) else some ((-103), c_t_mossThen, c_t_when))
abbrev rmX7_order : Room := ({ frames := 5, cells := 0, slots := 0, locals := 116 } : Room)
set_option maxHeartbeats 4000000 in
set_option maxRecDepth 100000 in
theorem kX7_order (l : Launch) (D : va_G) (cA : ClassId) (t t_page t_kinds t_deep t_leans t_moss t_rain t_mossThen t_when t_sights t_keptKinds t_keptDeep t_keptLeans t_keptMoss t_keptSights : Nat) (sz : Nat) (t_pageMany : Int32) (t_end : Int32) (t_clauses : Int32) (t_rains : Int32) (t_weekNext : Int32) (t_breaths : Int32) (t_wallsRead : Int32) (t_needsDone : Int32) (t_seenMany : Int32) (t_seedNow : Int32) (t_keptWall : Int32) (t_keptWeek : Int32) (t_keptBreaths : Int32) (t_keptSeen : Int32) (t_hash : Int64) (c_t_kinds : Nat → Int32) (c_t_deep : Nat → Int32) (c_t_leans : Nat → Int32) (c_t_moss : Nat → Int32) (c_t_rain : Nat → Int32) (c_t_mossThen : Nat → Int32) (c_t_when : Nat → Int32) (r : Int32) (o_c_t_mossThen : Nat → Int32) (o_c_t_when : Nat → Int32) (hM : mX7_order t_clauses t_rains t_weekNext c_t_kinds c_t_deep c_t_leans c_t_moss c_t_rain c_t_mossThen c_t_when = some (r, o_c_t_mossThen, o_c_t_when)) : Met l yX7_order wsX7_order rmX7_order (va_Pc [.ref t] (fun U => U.heap.size = sz ∧ va_P D vwCl [(t, .inr (7, [.ref t_page, .int t_pageMany, .int t_end, .int t_clauses, .int t_rains, .int t_weekNext, .int t_breaths, .int t_wallsRead, .ref t_kinds, .ref t_deep, .ref t_leans, .ref t_moss, .ref t_rain, .ref t_mossThen, .ref t_when, .int t_needsDone, .int t_seenMany, .ref t_sights, .int t_seedNow, .int t_keptWall, .int t_keptWeek, .int t_keptBreaths, .int t_keptSeen, .ref t_keptKinds, .ref t_keptDeep, .ref t_keptLeans, .ref t_keptMoss, .ref t_keptSights, .long t_hash])), (t_kinds, .inl (cA, 6, .inl c_t_kinds)), (t_deep, .inl (cA, 6, .inl c_t_deep)), (t_leans, .inl (cA, 6, .inl c_t_leans)), (t_moss, .inl (cA, 6, .inl c_t_moss)), (t_rain, .inl (cA, 8, .inl c_t_rain)), (t_mossThen, .inl (cA, 6, .inl c_t_mossThen)), (t_when, .inl (cA, 6, .inl c_t_when))] U.heap ∧ mw_ev D cA U ∧ va_D (fun _ => True) [(t, .inr (7, [.ref t_page, .int t_pageMany, .int t_end, .int t_clauses, .int t_rains, .int t_weekNext, .int t_breaths, .int t_wallsRead, .ref t_kinds, .ref t_deep, .ref t_leans, .ref t_moss, .ref t_rain, .ref t_mossThen, .ref t_when, .int t_needsDone, .int t_seenMany, .ref t_sights, .int t_seedNow, .int t_keptWall, .int t_keptWeek, .int t_keptBreaths, .int t_keptSeen, .ref t_keptKinds, .ref t_keptDeep, .ref t_keptLeans, .ref t_keptMoss, .ref t_keptSights, .long t_hash])), (t_kinds, .inl (cA, 6, .inl c_t_kinds)), (t_deep, .inl (cA, 6, .inl c_t_deep)), (t_leans, .inl (cA, 6, .inl c_t_leans)), (t_moss, .inl (cA, 6, .inl c_t_moss)), (t_rain, .inl (cA, 8, .inl c_t_rain)), (t_mossThen, .inl (cA, 6, .inl c_t_mossThen)), (t_when, .inl (cA, 6, .inl c_t_when))])) (va_Qi (fun (v : Int32) (_ : Unit) => v = r) (fun (_ : Unit) w_ => va_P D vwCl [(t, .inr (7, [.ref t_page, .int t_pageMany, .int t_end, .int t_clauses, .int t_rains, .int t_weekNext, .int t_breaths, .int t_wallsRead, .ref t_kinds, .ref t_deep, .ref t_leans, .ref t_moss, .ref t_rain, .ref t_mossThen, .ref t_when, .int t_needsDone, .int t_seenMany, .ref t_sights, .int t_seedNow, .int t_keptWall, .int t_keptWeek, .int t_keptBreaths, .int t_keptSeen, .ref t_keptKinds, .ref t_keptDeep, .ref t_keptLeans, .ref t_keptMoss, .ref t_keptSights, .long t_hash])), (t_kinds, .inl (cA, 6, .inl c_t_kinds)), (t_deep, .inl (cA, 6, .inl c_t_deep)), (t_leans, .inl (cA, 6, .inl c_t_leans)), (t_moss, .inl (cA, 6, .inl c_t_moss)), (t_rain, .inl (cA, 8, .inl c_t_rain)), (t_mossThen, .inl (cA, 6, .inl o_c_t_mossThen)), (t_when, .inl (cA, 6, .inl o_c_t_when))] w_.heap ∧ va_D (va_A [(t, .inr (7, [.ref t_page, .int t_pageMany, .int t_end, .int t_clauses, .int t_rains, .int t_weekNext, .int t_breaths, .int t_wallsRead, .ref t_kinds, .ref t_deep, .ref t_leans, .ref t_moss, .ref t_rain, .ref t_mossThen, .ref t_when, .int t_needsDone, .int t_seenMany, .ref t_sights, .int t_seedNow, .int t_keptWall, .int t_keptWeek, .int t_keptBreaths, .int t_keptSeen, .ref t_keptKinds, .ref t_keptDeep, .ref t_keptLeans, .ref t_keptMoss, .ref t_keptSights, .long t_hash])), (t_kinds, .inl (cA, 6, .inl c_t_kinds)), (t_deep, .inl (cA, 6, .inl c_t_deep)), (t_leans, .inl (cA, 6, .inl c_t_leans)), (t_moss, .inl (cA, 6, .inl c_t_moss)), (t_rain, .inl (cA, 8, .inl c_t_rain)), (t_mossThen, .inl (cA, 6, .inl c_t_mossThen)), (t_when, .inl (cA, 6, .inl c_t_when))] sz) [(t, .inr (7, [.ref t_page, .int t_pageMany, .int t_end, .int t_clauses, .int t_rains, .int t_weekNext, .int t_breaths, .int t_wallsRead, .ref t_kinds, .ref t_deep, .ref t_leans, .ref t_moss, .ref t_rain, .ref t_mossThen, .ref t_when, .int t_needsDone, .int t_seenMany, .ref t_sights, .int t_seedNow, .int t_keptWall, .int t_keptWeek, .int t_keptBreaths, .int t_keptSeen, .ref t_keptKinds, .ref t_keptDeep, .ref t_keptLeans, .ref t_keptMoss, .ref t_keptSights, .long t_hash])), (t_kinds, .inl (cA, 6, .inl c_t_kinds)), (t_deep, .inl (cA, 6, .inl c_t_deep)), (t_leans, .inl (cA, 6, .inl c_t_leans)), (t_moss, .inl (cA, 6, .inl c_t_moss)), (t_rain, .inl (cA, 8, .inl c_t_rain)), (t_mossThen, .inl (cA, 6, .inl o_c_t_mossThen)), (t_when, .inl (cA, 6, .inl o_c_t_when))]) (va_A [(t, .inr (7, [.ref t_page, .int t_pageMany, .int t_end, .int t_clauses, .int t_rains, .int t_weekNext, .int t_breaths, .int t_wallsRead, .ref t_kinds, .ref t_deep, .ref t_leans, .ref t_moss, .ref t_rain, .ref t_mossThen, .ref t_when, .int t_needsDone, .int t_seenMany, .ref t_sights, .int t_seedNow, .int t_keptWall, .int t_keptWeek, .int t_keptBreaths, .int t_keptSeen, .ref t_keptKinds, .ref t_keptDeep, .ref t_keptLeans, .ref t_keptMoss, .ref t_keptSights, .long t_hash])), (t_kinds, .inl (cA, 6, .inl c_t_kinds)), (t_deep, .inl (cA, 6, .inl c_t_deep)), (t_leans, .inl (cA, 6, .inl c_t_leans)), (t_moss, .inl (cA, 6, .inl c_t_moss)), (t_rain, .inl (cA, 8, .inl c_t_rain)), (t_mossThen, .inl (cA, 6, .inl c_t_mossThen)), (t_when, .inl (cA, 6, .inl c_t_when))] sz)) 0 0 (va_A [(t, .inr (7, [.ref t_page, .int t_pageMany, .int t_end, .int t_clauses, .int t_rains, .int t_weekNext, .int t_breaths, .int t_wallsRead, .ref t_kinds, .ref t_deep, .ref t_leans, .ref t_moss, .ref t_rain, .ref t_mossThen, .ref t_when, .int t_needsDone, .int t_seenMany, .ref t_sights, .int t_seedNow, .int t_keptWall, .int t_keptWeek, .int t_keptBreaths, .int t_keptSeen, .ref t_keptKinds, .ref t_keptDeep, .ref t_keptLeans, .ref t_keptMoss, .ref t_keptSights, .long t_hash])), (t_kinds, .inl (cA, 6, .inl c_t_kinds)), (t_deep, .inl (cA, 6, .inl c_t_deep)), (t_leans, .inl (cA, 6, .inl c_t_leans)), (t_moss, .inl (cA, 6, .inl c_t_moss)), (t_rain, .inl (cA, 8, .inl c_t_rain)), (t_mossThen, .inl (cA, 6, .inl c_t_mossThen)), (t_when, .inl (cA, 6, .inl c_t_when))] sz) := by
  unfold mX7_order at hM
  refine Met.ofW (cc := cX7_order) (maxL := 1) (ret := (some .int)) (by decide) rfl ?_
  intro p e s m args below meth c s₁ B hml hv
  obtain ⟨rfl, hsz, hP, hE, hD0⟩ := hv
  have hx := B.exec
  have hb := B.bytes
  have hr := B.returns
  have hts := atoms_spec (ws := wsX7_order) B.pre
  have hown : s.vm.findClass RX7 = some m.cls := findClass_of_methodNamed B.named
  have hlocks := B.notSynchronized
  have hK := hE.1
  subst hsz
  have hD := hD0.self (sz := s.heap.size)
  generalize hAe : va_A [(t, .inr (7, [.ref t_page, .int t_pageMany, .int t_end, .int t_clauses, .int t_rains, .int t_weekNext, .int t_breaths, .int t_wallsRead, .ref t_kinds, .ref t_deep, .ref t_leans, .ref t_moss, .ref t_rain, .ref t_mossThen, .ref t_when, .int t_needsDone, .int t_seenMany, .ref t_sights, .int t_seedNow, .int t_keptWall, .int t_keptWeek, .int t_keptBreaths, .int t_keptSeen, .ref t_keptKinds, .ref t_keptDeep, .ref t_keptLeans, .ref t_keptMoss, .ref t_keptSights, .long t_hash])), (t_kinds, .inl (cA, 6, .inl c_t_kinds)), (t_deep, .inl (cA, 6, .inl c_t_deep)), (t_leans, .inl (cA, 6, .inl c_t_leans)), (t_moss, .inl (cA, 6, .inl c_t_moss)), (t_rain, .inl (cA, 8, .inl c_t_rain)), (t_mossThen, .inl (cA, 6, .inl c_t_mossThen)), (t_when, .inl (cA, 6, .inl c_t_when))] s.heap.size = A at hD ⊢
  have hA : ∀ q : Nat, s.heap.size ≤ q → A q := fun q h => by rw [← hAe]; exact Or.inr h
  have hS : va_S A s.heap s.heap [] := va_S.rf
  have hl := lv_entry ([.ref t]) (n := 1) (Nat.le_of_ble_eq_true rfl)
  rw [lg_entry_eq]
  generalize (lg_sl ([.ref t]) ++ List.replicate (1 - (lg_sl ([.ref t])).length) Slot.unset).toArray = ls at hl ⊢
  have hl : lv_has ls 1 [(0, .ref t)] := hl
  refine mw_q (P := fun Q => W p l e (headSpec wsX7_order rmX7_order).room s m (([.ref t] : List Value).toArray) below meth c s.heap [] 0 0 Q (F0 m 0 ls [])) (fun Q hQ => ?_)
  refine lv_aload_n hx hb dX7_order_0 rfl (lv_at hl 0 rfl) ?_
  obtain ⟨r1, h1, hM⟩ := mw_d1 hM
  have hPc := hP.sub (ws' := [(t, .inr (7, [.ref t_page, .int t_pageMany, .int t_end, .int t_clauses, .int t_rains, .int t_weekNext, .int t_breaths, .int t_wallsRead, .ref t_kinds, .ref t_deep, .ref t_leans, .ref t_moss, .ref t_rain, .ref t_mossThen, .ref t_when, .int t_needsDone, .int t_seenMany, .ref t_sights, .int t_seedNow, .int t_keptWall, .int t_keptWeek, .int t_keptBreaths, .int t_keptSeen, .ref t_keptKinds, .ref t_keptDeep, .ref t_keptLeans, .ref t_keptMoss, .ref t_keptSights, .long t_hash]))]) [0] rfl
  refine vp_callSi (va_Run.run (va_runV (As := []) (rest := []) ⟨hx, hb, hml, hown, hts⟩ (kX7_lacks l D cA t t_page t_kinds t_deep t_leans t_moss t_rain t_mossThen t_when t_sights t_keptKinds t_keptDeep t_keptLeans t_keptMoss t_keptSights t_pageMany t_end t_clauses t_rains t_weekNext t_breaths t_wallsRead t_needsDone t_seenMany t_seedNow t_keptWall t_keptWeek t_keptBreaths t_keptSeen t_hash r1 h1) (cwV 0 hts gX7_order_X7_lacks rfl rfl rfl (by decide +kernel) ⟨Nat.le_of_ble_eq_true rfl, Nat.le_of_ble_eq_true rfl⟩) ⟨mw_fbR, va_recv hK hP (ci := 7) (q0 := 0) rfl rfl, mw_puR hPc hE⟩ rfl rfl hl.1 rfl (lv_room (Nat.le_of_ble_eq_true rfl)) dX7_order_1 ⟨Nat.zero_le _, Nat.zero_le _⟩)) (fun v_ e_ => ?_)
  obtain ⟨e_, b1⟩ := e_
  subst v_
  refine lv_if_eq (tgt := 12) hx hb dX7_order_4 (by decide) (fun q2 => ?_) (fun q2 => ?_)
  · replace hM := mw_t hM q2
    refine lv_aload_n hx hb dX7_order_12 rfl (lv_at hl 0 rfl) ?_
    obtain ⟨r3, u3_t_mossThen, u3_t_when, h3, hM⟩ := mw_d3 hM
    have hPc := hP.sub (ws' := [(t, .inr (7, [.ref t_page, .int t_pageMany, .int t_end, .int t_clauses, .int t_rains, .int t_weekNext, .int t_breaths, .int t_wallsRead, .ref t_kinds, .ref t_deep, .ref t_leans, .ref t_moss, .ref t_rain, .ref t_mossThen, .ref t_when, .int t_needsDone, .int t_seenMany, .ref t_sights, .int t_seedNow, .int t_keptWall, .int t_keptWeek, .int t_keptBreaths, .int t_keptSeen, .ref t_keptKinds, .ref t_keptDeep, .ref t_keptLeans, .ref t_keptMoss, .ref t_keptSights, .long t_hash])), (t_kinds, .inl (cA, 6, .inl c_t_kinds)), (t_deep, .inl (cA, 6, .inl c_t_deep)), (t_leans, .inl (cA, 6, .inl c_t_leans)), (t_moss, .inl (cA, 6, .inl c_t_moss)), (t_rain, .inl (cA, 8, .inl c_t_rain)), (t_mossThen, .inl (cA, 6, .inl c_t_mossThen)), (t_when, .inl (cA, 6, .inl c_t_when))]) [0, 1, 2, 3, 4, 5, 6, 7] rfl
    have hDc := hD.sub (ws' := [(t, .inr (7, [.ref t_page, .int t_pageMany, .int t_end, .int t_clauses, .int t_rains, .int t_weekNext, .int t_breaths, .int t_wallsRead, .ref t_kinds, .ref t_deep, .ref t_leans, .ref t_moss, .ref t_rain, .ref t_mossThen, .ref t_when, .int t_needsDone, .int t_seenMany, .ref t_sights, .int t_seedNow, .int t_keptWall, .int t_keptWeek, .int t_keptBreaths, .int t_keptSeen, .ref t_keptKinds, .ref t_keptDeep, .ref t_keptLeans, .ref t_keptMoss, .ref t_keptSights, .long t_hash])), (t_kinds, .inl (cA, 6, .inl c_t_kinds)), (t_deep, .inl (cA, 6, .inl c_t_deep)), (t_leans, .inl (cA, 6, .inl c_t_leans)), (t_moss, .inl (cA, 6, .inl c_t_moss)), (t_rain, .inl (cA, 8, .inl c_t_rain)), (t_mossThen, .inl (cA, 6, .inl c_t_mossThen)), (t_when, .inl (cA, 6, .inl c_t_when))]) [0, 1, 2, 3, 4, 5, 6, 7] (by decide) rfl
    have hFc := va_free (wc := [(t, .inr (7, [.ref t_page, .int t_pageMany, .int t_end, .int t_clauses, .int t_rains, .int t_weekNext, .int t_breaths, .int t_wallsRead, .ref t_kinds, .ref t_deep, .ref t_leans, .ref t_moss, .ref t_rain, .ref t_mossThen, .ref t_when, .int t_needsDone, .int t_seenMany, .ref t_sights, .int t_seedNow, .int t_keptWall, .int t_keptWeek, .int t_keptBreaths, .int t_keptSeen, .ref t_keptKinds, .ref t_keptDeep, .ref t_keptLeans, .ref t_keptMoss, .ref t_keptSights, .long t_hash])), (t_kinds, .inl (cA, 6, .inl c_t_kinds)), (t_deep, .inl (cA, 6, .inl c_t_deep)), (t_leans, .inl (cA, 6, .inl c_t_leans)), (t_moss, .inl (cA, 6, .inl c_t_moss)), (t_rain, .inl (cA, 8, .inl c_t_rain)), (t_mossThen, .inl (cA, 6, .inl c_t_mossThen)), (t_when, .inl (cA, 6, .inl c_t_when))]) hD hS hA [0, 1, 2, 3, 4, 5, 6, 7] rfl
    refine va_calli (va_runV (As := []) (rest := []) ⟨hx, hb, hml, hown, hts⟩ (kX7_orderOf l D cA t t_page t_kinds t_deep t_leans t_moss t_rain t_mossThen t_when t_sights t_keptKinds t_keptDeep t_keptLeans t_keptMoss t_keptSights _ t_pageMany t_end t_clauses t_rains t_weekNext t_breaths t_wallsRead t_needsDone t_seenMany t_seedNow t_keptWall t_keptWeek t_keptBreaths t_keptSeen t_hash c_t_kinds c_t_deep c_t_leans c_t_moss c_t_rain c_t_mossThen c_t_when r3 u3_t_mossThen u3_t_when h3) (cwV 0 hts gX7_order_X7_orderOf rfl rfl rfl (by decide +kernel) ⟨Nat.le_of_ble_eq_true rfl, Nat.le_of_ble_eq_true rfl⟩) ⟨mw_fbW, va_recv hK hP (ci := 7) (q0 := 0) rfl rfl, mw_puW hPc hE hDc⟩ rfl rfl hl.1 rfl (lv_room (Nat.le_of_ble_eq_true rfl)) dX7_order_13 ⟨Nat.zero_le _, Nat.zero_le _⟩) hS (fun q _ h => hFc q h) hFc (fun v_ _ t_ H locs ht_ _ e_ hB_ _ hk_ hS => ?_)
    subst v_
    obtain ⟨hP1, hD1⟩ := hB_
    rw [ht_] at hP1
    obtain ⟨hP, hD⟩ := va_join (wr := []) (w1 := [(t, .inr (7, [.ref t_page, .int t_pageMany, .int t_end, .int t_clauses, .int t_rains, .int t_weekNext, .int t_breaths, .int t_wallsRead, .ref t_kinds, .ref t_deep, .ref t_leans, .ref t_moss, .ref t_rain, .ref t_mossThen, .ref t_when, .int t_needsDone, .int t_seenMany, .ref t_sights, .int t_seedNow, .int t_keptWall, .int t_keptWeek, .int t_keptBreaths, .int t_keptSeen, .ref t_keptKinds, .ref t_keptDeep, .ref t_keptLeans, .ref t_keptMoss, .ref t_keptSights, .long t_hash])), (t_kinds, .inl (cA, 6, .inl c_t_kinds)), (t_deep, .inl (cA, 6, .inl c_t_deep)), (t_leans, .inl (cA, 6, .inl c_t_leans)), (t_moss, .inl (cA, 6, .inl c_t_moss)), (t_rain, .inl (cA, 8, .inl c_t_rain)), (t_mossThen, .inl (cA, 6, .inl u3_t_mossThen)), (t_when, .inl (cA, 6, .inl u3_t_when))]) hP hD [0, 1, 2, 3, 4, 5, 6, 7] [] rfl rfl (by decide) (by decide) hk_ hFc hP1 hD1
    have hP : va_P D vwCl [(t, .inr (7, [.ref t_page, .int t_pageMany, .int t_end, .int t_clauses, .int t_rains, .int t_weekNext, .int t_breaths, .int t_wallsRead, .ref t_kinds, .ref t_deep, .ref t_leans, .ref t_moss, .ref t_rain, .ref t_mossThen, .ref t_when, .int t_needsDone, .int t_seenMany, .ref t_sights, .int t_seedNow, .int t_keptWall, .int t_keptWeek, .int t_keptBreaths, .int t_keptSeen, .ref t_keptKinds, .ref t_keptDeep, .ref t_keptLeans, .ref t_keptMoss, .ref t_keptSights, .long t_hash])), (t_kinds, .inl (cA, 6, .inl c_t_kinds)), (t_deep, .inl (cA, 6, .inl c_t_deep)), (t_leans, .inl (cA, 6, .inl c_t_leans)), (t_moss, .inl (cA, 6, .inl c_t_moss)), (t_rain, .inl (cA, 8, .inl c_t_rain)), (t_mossThen, .inl (cA, 6, .inl u3_t_mossThen)), (t_when, .inl (cA, 6, .inl u3_t_when))] H := hP
    have hD : va_D A [(t, .inr (7, [.ref t_page, .int t_pageMany, .int t_end, .int t_clauses, .int t_rains, .int t_weekNext, .int t_breaths, .int t_wallsRead, .ref t_kinds, .ref t_deep, .ref t_leans, .ref t_moss, .ref t_rain, .ref t_mossThen, .ref t_when, .int t_needsDone, .int t_seenMany, .ref t_sights, .int t_seedNow, .int t_keptWall, .int t_keptWeek, .int t_keptBreaths, .int t_keptSeen, .ref t_keptKinds, .ref t_keptDeep, .ref t_keptLeans, .ref t_keptMoss, .ref t_keptSights, .long t_hash])), (t_kinds, .inl (cA, 6, .inl c_t_kinds)), (t_deep, .inl (cA, 6, .inl c_t_deep)), (t_leans, .inl (cA, 6, .inl c_t_leans)), (t_moss, .inl (cA, 6, .inl c_t_moss)), (t_rain, .inl (cA, 8, .inl c_t_rain)), (t_mossThen, .inl (cA, 6, .inl u3_t_mossThen)), (t_when, .inl (cA, 6, .inl u3_t_when))] := hD
    obtain ⟨rfl, rfl, rfl⟩ := mw_o3 hM
    subst hQ
    exact W.iret hx hb hr (fun t ht hW => ⟨⟨_, (), rfl, rfl, by rw [ht]; exact hP, hD⟩, hS.F ht⟩) hS.2.2 dX7_order_16
  · replace hM := mw_f hM q2
    refine lv_bipush (v := (-103)) hx hb dX7_order_7 (by decide) ?_
    refine lv_goto (tgt := 16) hx hb dX7_order_9 (by decide) ?_
    obtain ⟨rfl, rfl, rfl⟩ := mw_o3 hM
    subst hQ
    exact W.iret hx hb hr (fun t ht hW => ⟨⟨_, (), rfl, rfl, by rw [ht]; exact hP, hD⟩, hS.F ht⟩) hS.2.2 dX7_order_16
def mX7_isEnough_L1  (k1_45 : Int32 → (Nat → Int32) → Option (Int32 × (Nat → Int32))) : Nat → Int32 → (Nat → Int32) → Option (Int32 × (Nat → Int32))
  | 0, _, _ => none
  | n1 + 1, x4_1, y1_t_mossThen =>
    (if x4_1 ≤ 0 then k1_45 x4_1 y1_t_mossThen else (mw_rd y1_t_mossThen 6 ((mw_re x4_1 10) - 1)).bind fun e3 => (mw_wr y1_t_mossThen 6 ((mw_re x4_1 10) - 1) (e3 + 1)).bind fun a4_mossThen => mX7_isEnough_L1 k1_45 n1 (x4_1 / 10) a4_mossThen)
def mX7_isEnough (t_clauses : Int32) (t_rains : Int32) (t_weekNext : Int32) (c_t_kinds : Nat → Int32) (c_t_deep : Nat → Int32) (c_t_leans : Nat → Int32) (c_t_moss : Nat → Int32) (c_t_rain : Nat → Int32) (c_t_mossThen : Nat → Int32) (p1 : Int32) (p2 : Int32) (p3 : Int32) : Option (Int32 × (Nat → Int32)) :=
  (mX7_copy 6 c_t_moss 6 c_t_mossThen).bind fun u1_t_mossThen => mX7_isEnough_L1 (fun (x4_1 : Int32) (y1_t_mossThen : Nat → Int32) => (mX7_goOn t_clauses t_rains t_weekNext c_t_kinds c_t_deep c_t_leans c_t_rain y1_t_mossThen p3).bind fun u5_t_mossThen => (mX7_closedBits t_clauses c_t_deep 6 u5_t_mossThen).bind fun r6 => (if (r6 &&& p2) = p2 then some (1, u5_t_mossThen) else some (0, u5_t_mossThen))) 300 p1 u1_t_mossThen
abbrev rmX7_isEnough : Room := ({ frames := 4, cells := 0, slots := 0, locals := 93 } : Room)
set_option maxHeartbeats 4000000 in
set_option maxRecDepth 100000 in
theorem kX7_isEnough (l : Launch) (D : va_G) (cA : ClassId) (t t_page t_kinds t_deep t_leans t_moss t_rain t_mossThen t_when t_sights t_keptKinds t_keptDeep t_keptLeans t_keptMoss t_keptSights : Nat) (sz : Nat) (t_pageMany : Int32) (t_end : Int32) (t_clauses : Int32) (t_rains : Int32) (t_weekNext : Int32) (t_breaths : Int32) (t_wallsRead : Int32) (t_needsDone : Int32) (t_seenMany : Int32) (t_seedNow : Int32) (t_keptWall : Int32) (t_keptWeek : Int32) (t_keptBreaths : Int32) (t_keptSeen : Int32) (t_hash : Int64) (c_t_kinds : Nat → Int32) (c_t_deep : Nat → Int32) (c_t_leans : Nat → Int32) (c_t_moss : Nat → Int32) (c_t_rain : Nat → Int32) (c_t_mossThen : Nat → Int32) (p1 : Int32) (p2 : Int32) (p3 : Int32) (r : Int32) (o_c_t_mossThen : Nat → Int32) (hM : mX7_isEnough t_clauses t_rains t_weekNext c_t_kinds c_t_deep c_t_leans c_t_moss c_t_rain c_t_mossThen p1 p2 p3 = some (r, o_c_t_mossThen)) : Met l yX7_isEnough wsX7_isEnough rmX7_isEnough (va_Pc [.ref t, .int p1, .int p2, .int p3] (fun U => U.heap.size = sz ∧ va_P D vwCl [(t, .inr (7, [.ref t_page, .int t_pageMany, .int t_end, .int t_clauses, .int t_rains, .int t_weekNext, .int t_breaths, .int t_wallsRead, .ref t_kinds, .ref t_deep, .ref t_leans, .ref t_moss, .ref t_rain, .ref t_mossThen, .ref t_when, .int t_needsDone, .int t_seenMany, .ref t_sights, .int t_seedNow, .int t_keptWall, .int t_keptWeek, .int t_keptBreaths, .int t_keptSeen, .ref t_keptKinds, .ref t_keptDeep, .ref t_keptLeans, .ref t_keptMoss, .ref t_keptSights, .long t_hash])), (t_kinds, .inl (cA, 6, .inl c_t_kinds)), (t_deep, .inl (cA, 6, .inl c_t_deep)), (t_leans, .inl (cA, 6, .inl c_t_leans)), (t_moss, .inl (cA, 6, .inl c_t_moss)), (t_rain, .inl (cA, 8, .inl c_t_rain)), (t_mossThen, .inl (cA, 6, .inl c_t_mossThen))] U.heap ∧ mw_ev D cA U ∧ va_D (fun _ => True) [(t, .inr (7, [.ref t_page, .int t_pageMany, .int t_end, .int t_clauses, .int t_rains, .int t_weekNext, .int t_breaths, .int t_wallsRead, .ref t_kinds, .ref t_deep, .ref t_leans, .ref t_moss, .ref t_rain, .ref t_mossThen, .ref t_when, .int t_needsDone, .int t_seenMany, .ref t_sights, .int t_seedNow, .int t_keptWall, .int t_keptWeek, .int t_keptBreaths, .int t_keptSeen, .ref t_keptKinds, .ref t_keptDeep, .ref t_keptLeans, .ref t_keptMoss, .ref t_keptSights, .long t_hash])), (t_kinds, .inl (cA, 6, .inl c_t_kinds)), (t_deep, .inl (cA, 6, .inl c_t_deep)), (t_leans, .inl (cA, 6, .inl c_t_leans)), (t_moss, .inl (cA, 6, .inl c_t_moss)), (t_rain, .inl (cA, 8, .inl c_t_rain)), (t_mossThen, .inl (cA, 6, .inl c_t_mossThen))])) (va_Qi (fun (v : Int32) (_ : Unit) => v = r ∧ narrow .boolean (.int v) = .int v) (fun (_ : Unit) w_ => va_P D vwCl [(t, .inr (7, [.ref t_page, .int t_pageMany, .int t_end, .int t_clauses, .int t_rains, .int t_weekNext, .int t_breaths, .int t_wallsRead, .ref t_kinds, .ref t_deep, .ref t_leans, .ref t_moss, .ref t_rain, .ref t_mossThen, .ref t_when, .int t_needsDone, .int t_seenMany, .ref t_sights, .int t_seedNow, .int t_keptWall, .int t_keptWeek, .int t_keptBreaths, .int t_keptSeen, .ref t_keptKinds, .ref t_keptDeep, .ref t_keptLeans, .ref t_keptMoss, .ref t_keptSights, .long t_hash])), (t_kinds, .inl (cA, 6, .inl c_t_kinds)), (t_deep, .inl (cA, 6, .inl c_t_deep)), (t_leans, .inl (cA, 6, .inl c_t_leans)), (t_moss, .inl (cA, 6, .inl c_t_moss)), (t_rain, .inl (cA, 8, .inl c_t_rain)), (t_mossThen, .inl (cA, 6, .inl o_c_t_mossThen))] w_.heap ∧ va_D (va_A [(t, .inr (7, [.ref t_page, .int t_pageMany, .int t_end, .int t_clauses, .int t_rains, .int t_weekNext, .int t_breaths, .int t_wallsRead, .ref t_kinds, .ref t_deep, .ref t_leans, .ref t_moss, .ref t_rain, .ref t_mossThen, .ref t_when, .int t_needsDone, .int t_seenMany, .ref t_sights, .int t_seedNow, .int t_keptWall, .int t_keptWeek, .int t_keptBreaths, .int t_keptSeen, .ref t_keptKinds, .ref t_keptDeep, .ref t_keptLeans, .ref t_keptMoss, .ref t_keptSights, .long t_hash])), (t_kinds, .inl (cA, 6, .inl c_t_kinds)), (t_deep, .inl (cA, 6, .inl c_t_deep)), (t_leans, .inl (cA, 6, .inl c_t_leans)), (t_moss, .inl (cA, 6, .inl c_t_moss)), (t_rain, .inl (cA, 8, .inl c_t_rain)), (t_mossThen, .inl (cA, 6, .inl c_t_mossThen))] sz) [(t, .inr (7, [.ref t_page, .int t_pageMany, .int t_end, .int t_clauses, .int t_rains, .int t_weekNext, .int t_breaths, .int t_wallsRead, .ref t_kinds, .ref t_deep, .ref t_leans, .ref t_moss, .ref t_rain, .ref t_mossThen, .ref t_when, .int t_needsDone, .int t_seenMany, .ref t_sights, .int t_seedNow, .int t_keptWall, .int t_keptWeek, .int t_keptBreaths, .int t_keptSeen, .ref t_keptKinds, .ref t_keptDeep, .ref t_keptLeans, .ref t_keptMoss, .ref t_keptSights, .long t_hash])), (t_kinds, .inl (cA, 6, .inl c_t_kinds)), (t_deep, .inl (cA, 6, .inl c_t_deep)), (t_leans, .inl (cA, 6, .inl c_t_leans)), (t_moss, .inl (cA, 6, .inl c_t_moss)), (t_rain, .inl (cA, 8, .inl c_t_rain)), (t_mossThen, .inl (cA, 6, .inl o_c_t_mossThen))]) (va_A [(t, .inr (7, [.ref t_page, .int t_pageMany, .int t_end, .int t_clauses, .int t_rains, .int t_weekNext, .int t_breaths, .int t_wallsRead, .ref t_kinds, .ref t_deep, .ref t_leans, .ref t_moss, .ref t_rain, .ref t_mossThen, .ref t_when, .int t_needsDone, .int t_seenMany, .ref t_sights, .int t_seedNow, .int t_keptWall, .int t_keptWeek, .int t_keptBreaths, .int t_keptSeen, .ref t_keptKinds, .ref t_keptDeep, .ref t_keptLeans, .ref t_keptMoss, .ref t_keptSights, .long t_hash])), (t_kinds, .inl (cA, 6, .inl c_t_kinds)), (t_deep, .inl (cA, 6, .inl c_t_deep)), (t_leans, .inl (cA, 6, .inl c_t_leans)), (t_moss, .inl (cA, 6, .inl c_t_moss)), (t_rain, .inl (cA, 8, .inl c_t_rain)), (t_mossThen, .inl (cA, 6, .inl c_t_mossThen))] sz)) 0 0 (va_A [(t, .inr (7, [.ref t_page, .int t_pageMany, .int t_end, .int t_clauses, .int t_rains, .int t_weekNext, .int t_breaths, .int t_wallsRead, .ref t_kinds, .ref t_deep, .ref t_leans, .ref t_moss, .ref t_rain, .ref t_mossThen, .ref t_when, .int t_needsDone, .int t_seenMany, .ref t_sights, .int t_seedNow, .int t_keptWall, .int t_keptWeek, .int t_keptBreaths, .int t_keptSeen, .ref t_keptKinds, .ref t_keptDeep, .ref t_keptLeans, .ref t_keptMoss, .ref t_keptSights, .long t_hash])), (t_kinds, .inl (cA, 6, .inl c_t_kinds)), (t_deep, .inl (cA, 6, .inl c_t_deep)), (t_leans, .inl (cA, 6, .inl c_t_leans)), (t_moss, .inl (cA, 6, .inl c_t_moss)), (t_rain, .inl (cA, 8, .inl c_t_rain)), (t_mossThen, .inl (cA, 6, .inl c_t_mossThen))] sz) := by
  unfold mX7_isEnough at hM
  refine Met.ofW (cc := cX7_isEnough) (maxL := 5) (ret := (some .boolean)) (by decide) rfl ?_
  intro p e s m args below meth c s₁ B hml hv
  obtain ⟨rfl, hsz, hP, hE, hD0⟩ := hv
  have hx := B.exec
  have hb := B.bytes
  have hr := B.returns
  have hts := atoms_spec (ws := wsX7_isEnough) B.pre
  have hown : s.vm.findClass RX7 = some m.cls := findClass_of_methodNamed B.named
  have hlocks := B.notSynchronized
  have hK := hE.1
  subst hsz
  have hD := hD0.self (sz := s.heap.size)
  generalize hAe : va_A [(t, .inr (7, [.ref t_page, .int t_pageMany, .int t_end, .int t_clauses, .int t_rains, .int t_weekNext, .int t_breaths, .int t_wallsRead, .ref t_kinds, .ref t_deep, .ref t_leans, .ref t_moss, .ref t_rain, .ref t_mossThen, .ref t_when, .int t_needsDone, .int t_seenMany, .ref t_sights, .int t_seedNow, .int t_keptWall, .int t_keptWeek, .int t_keptBreaths, .int t_keptSeen, .ref t_keptKinds, .ref t_keptDeep, .ref t_keptLeans, .ref t_keptMoss, .ref t_keptSights, .long t_hash])), (t_kinds, .inl (cA, 6, .inl c_t_kinds)), (t_deep, .inl (cA, 6, .inl c_t_deep)), (t_leans, .inl (cA, 6, .inl c_t_leans)), (t_moss, .inl (cA, 6, .inl c_t_moss)), (t_rain, .inl (cA, 8, .inl c_t_rain)), (t_mossThen, .inl (cA, 6, .inl c_t_mossThen))] s.heap.size = A at hD ⊢
  have hA : ∀ q : Nat, s.heap.size ≤ q → A q := fun q h => by rw [← hAe]; exact Or.inr h
  have hS : va_S A s.heap s.heap [] := va_S.rf
  have hl := lv_entry ([.ref t, .int p1, .int p2, .int p3]) (n := 5) (Nat.le_of_ble_eq_true rfl)
  rw [lg_entry_eq]
  generalize (lg_sl ([.ref t, .int p1, .int p2, .int p3]) ++ List.replicate (5 - (lg_sl ([.ref t, .int p1, .int p2, .int p3])).length) Slot.unset).toArray = ls at hl ⊢
  have hl : lv_has ls 5 [(0, .ref t), (1, .int p1), (2, .int p2), (3, .int p3)] := hl
  refine mw_q (P := fun Q => W p l e (headSpec wsX7_isEnough rmX7_isEnough).room s m (([.ref t, .int p1, .int p2, .int p3] : List Value).toArray) below meth c s.heap [] 0 0 Q (F0 m 0 ls [])) (fun Q hQ => ?_)
  refine lv_aload_n hx hb dX7_isEnough_0 rfl (lv_at hl 0 rfl) ?_
  refine va_get (D := D) (ci := 7) (v := .ref t_moss) (C := RX7) (T := TX7) (N := 29) hx hb hts (fun _ h => List.mem_cons_of_mem _ (List.mem_append_right _ (h))) hown hK hP 0 rfl rfl 11 (by decide) (hts (.fieldLink RX7 22 "MossWallModel" "moss" "[I") (List.mem_cons_of_mem _ (List.mem_append_left _ (List.mem_append_left _ (List.mem_of_getElem? (i := 0) rfl))))) (fun _ h9 => h9) rfl dX7_isEnough_1 ?_
  refine lv_aload_n hx hb dX7_isEnough_4 rfl (lv_at hl 0 rfl) ?_
  refine va_get (D := D) (ci := 7) (v := .ref t_mossThen) (C := RX7) (T := TX7) (N := 29) hx hb hts (fun _ h => List.mem_cons_of_mem _ (List.mem_append_right _ (h))) hown hK hP 0 rfl rfl 13 (by decide) (hts (.fieldLink RX7 28 "MossWallModel" "mossThen" "[I") (List.mem_cons_of_mem _ (List.mem_append_left _ (List.mem_append_left _ (List.mem_of_getElem? (i := 1) rfl))))) (fun _ h9 => h9) rfl dX7_isEnough_5 ?_
  obtain ⟨u1_t_mossThen, h1, hM⟩ := mw_d1 hM
  have hPc := hP.sub (ws' := [(t_moss, .inl (cA, 6, .inl c_t_moss)), (t_mossThen, .inl (cA, 6, .inl c_t_mossThen))]) [4, 6] rfl
  have hDc := hD.sub (ws' := [(t_moss, .inl (cA, 6, .inl c_t_moss)), (t_mossThen, .inl (cA, 6, .inl c_t_mossThen))]) [4, 6] (by decide) rfl
  have hFc := va_free (wc := [(t_moss, .inl (cA, 6, .inl c_t_moss)), (t_mossThen, .inl (cA, 6, .inl c_t_mossThen))]) hD hS hA [4, 6] rfl
  refine va_callv (va_runS (As := [.ref t_moss, .ref t_mossThen]) (rest := []) ⟨hx, hb, hml, hown, hts⟩ (kX7_copy l D cA t_moss t_mossThen _ 6 c_t_moss 6 c_t_mossThen u1_t_mossThen h1) (va_cwS 2 hts gX7_isEnough_X7_copy rfl rfl rfl (by decide +kernel) ⟨Nat.le_of_ble_eq_true rfl, Nat.le_of_ble_eq_true rfl⟩) ⟨mw_fbW, mw_puW hPc hE hDc⟩ rfl rfl hl.1 rfl (lv_room (Nat.le_of_ble_eq_true rfl)) dX7_isEnough_8 ⟨Nat.zero_le _, Nat.zero_le _⟩) hS (fun q _ h => hFc q h) hFc (fun _ t_ H locs ht_ _ _ hB_ _ hk_ hS => ?_)
  obtain ⟨hP1, hD1⟩ := hB_
  rw [ht_] at hP1
  obtain ⟨hP, hD⟩ := va_join (wr := [(t, .inr (7, [.ref t_page, .int t_pageMany, .int t_end, .int t_clauses, .int t_rains, .int t_weekNext, .int t_breaths, .int t_wallsRead, .ref t_kinds, .ref t_deep, .ref t_leans, .ref t_moss, .ref t_rain, .ref t_mossThen, .ref t_when, .int t_needsDone, .int t_seenMany, .ref t_sights, .int t_seedNow, .int t_keptWall, .int t_keptWeek, .int t_keptBreaths, .int t_keptSeen, .ref t_keptKinds, .ref t_keptDeep, .ref t_keptLeans, .ref t_keptMoss, .ref t_keptSights, .long t_hash])), (t_kinds, .inl (cA, 6, .inl c_t_kinds)), (t_deep, .inl (cA, 6, .inl c_t_deep)), (t_leans, .inl (cA, 6, .inl c_t_leans)), (t_rain, .inl (cA, 8, .inl c_t_rain))]) (w1 := [(t_moss, .inl (cA, 6, .inl c_t_moss)), (t_mossThen, .inl (cA, 6, .inl u1_t_mossThen))]) hP hD [4, 6] [0, 1, 2, 3, 5] rfl rfl (by decide) (by decide) hk_ hFc hP1 hD1
  have hP : va_P D vwCl [(t, .inr (7, [.ref t_page, .int t_pageMany, .int t_end, .int t_clauses, .int t_rains, .int t_weekNext, .int t_breaths, .int t_wallsRead, .ref t_kinds, .ref t_deep, .ref t_leans, .ref t_moss, .ref t_rain, .ref t_mossThen, .ref t_when, .int t_needsDone, .int t_seenMany, .ref t_sights, .int t_seedNow, .int t_keptWall, .int t_keptWeek, .int t_keptBreaths, .int t_keptSeen, .ref t_keptKinds, .ref t_keptDeep, .ref t_keptLeans, .ref t_keptMoss, .ref t_keptSights, .long t_hash])), (t_kinds, .inl (cA, 6, .inl c_t_kinds)), (t_deep, .inl (cA, 6, .inl c_t_deep)), (t_leans, .inl (cA, 6, .inl c_t_leans)), (t_rain, .inl (cA, 8, .inl c_t_rain)), (t_moss, .inl (cA, 6, .inl c_t_moss)), (t_mossThen, .inl (cA, 6, .inl u1_t_mossThen))] H := hP
  have hD : va_D A [(t, .inr (7, [.ref t_page, .int t_pageMany, .int t_end, .int t_clauses, .int t_rains, .int t_weekNext, .int t_breaths, .int t_wallsRead, .ref t_kinds, .ref t_deep, .ref t_leans, .ref t_moss, .ref t_rain, .ref t_mossThen, .ref t_when, .int t_needsDone, .int t_seenMany, .ref t_sights, .int t_seedNow, .int t_keptWall, .int t_keptWeek, .int t_keptBreaths, .int t_keptSeen, .ref t_keptKinds, .ref t_keptDeep, .ref t_keptLeans, .ref t_keptMoss, .ref t_keptSights, .long t_hash])), (t_kinds, .inl (cA, 6, .inl c_t_kinds)), (t_deep, .inl (cA, 6, .inl c_t_deep)), (t_leans, .inl (cA, 6, .inl c_t_leans)), (t_rain, .inl (cA, 8, .inl c_t_rain)), (t_moss, .inl (cA, 6, .inl c_t_moss)), (t_mossThen, .inl (cA, 6, .inl u1_t_mossThen))] := hD
  refine lv_iload_n hx hb dX7_isEnough_11 rfl (lv_at hl 1 rfl) ?_
  refine lv_istore (lv' := [(4, .int p1), (0, .ref t), (1, .int p1), (2, .int p2), (3, .int p3)]) hx hb dX7_isEnough_12 hl (by decide) rfl (fun ls hl => ?_)
  obtain ⟨k1_45, jk1_45⟩ : ∃ k : Int32 → (Nat → Int32) → Option (Int32 × (Nat → Int32)), k = fun (x4_1 : Int32) (y1_t_mossThen : Nat → Int32) => (mX7_goOn t_clauses t_rains t_weekNext c_t_kinds c_t_deep c_t_leans c_t_rain y1_t_mossThen p3).bind fun u5_t_mossThen => (mX7_closedBits t_clauses c_t_deep 6 u5_t_mossThen).bind fun r6 => (if (r6 &&& p2) = p2 then some (1, u5_t_mossThen) else some (0, u5_t_mossThen)) := ⟨_, rfl⟩
  have Ek1_45 : ∀ (x4_1 : Int32) (y1_t_mossThen : Nat → Int32) (H : Heap) (locs : List Loc) (ls : Array Slot), va_P D vwCl [(t, .inr (7, [.ref t_page, .int t_pageMany, .int t_end, .int t_clauses, .int t_rains, .int t_weekNext, .int t_breaths, .int t_wallsRead, .ref t_kinds, .ref t_deep, .ref t_leans, .ref t_moss, .ref t_rain, .ref t_mossThen, .ref t_when, .int t_needsDone, .int t_seenMany, .ref t_sights, .int t_seedNow, .int t_keptWall, .int t_keptWeek, .int t_keptBreaths, .int t_keptSeen, .ref t_keptKinds, .ref t_keptDeep, .ref t_keptLeans, .ref t_keptMoss, .ref t_keptSights, .long t_hash])), (t_kinds, .inl (cA, 6, .inl c_t_kinds)), (t_deep, .inl (cA, 6, .inl c_t_deep)), (t_leans, .inl (cA, 6, .inl c_t_leans)), (t_rain, .inl (cA, 8, .inl c_t_rain)), (t_moss, .inl (cA, 6, .inl c_t_moss)), (t_mossThen, .inl (cA, 6, .inl y1_t_mossThen))] H → va_D A [(t, .inr (7, [.ref t_page, .int t_pageMany, .int t_end, .int t_clauses, .int t_rains, .int t_weekNext, .int t_breaths, .int t_wallsRead, .ref t_kinds, .ref t_deep, .ref t_leans, .ref t_moss, .ref t_rain, .ref t_mossThen, .ref t_when, .int t_needsDone, .int t_seenMany, .ref t_sights, .int t_seedNow, .int t_keptWall, .int t_keptWeek, .int t_keptBreaths, .int t_keptSeen, .ref t_keptKinds, .ref t_keptDeep, .ref t_keptLeans, .ref t_keptMoss, .ref t_keptSights, .long t_hash])), (t_kinds, .inl (cA, 6, .inl c_t_kinds)), (t_deep, .inl (cA, 6, .inl c_t_deep)), (t_leans, .inl (cA, 6, .inl c_t_leans)), (t_rain, .inl (cA, 8, .inl c_t_rain)), (t_moss, .inl (cA, 6, .inl c_t_moss)), (t_mossThen, .inl (cA, 6, .inl y1_t_mossThen))] → va_S A s.heap H locs → lv_has ls 5 [(4, .int x4_1), (0, .ref t), (1, .int p1), (2, .int p2), (3, .int p3)] → k1_45 x4_1 y1_t_mossThen = some (r, o_c_t_mossThen) → W p l e (headSpec wsX7_isEnough rmX7_isEnough).room s m (([.ref t, .int p1, .int p2, .int p3] : List Value).toArray) below meth c H locs 0 0 Q (F0 m 45 ls []) := by
      intro x4_1 y1_t_mossThen H locs ls hP hD hS hl hM
      rw [jk1_45] at hM
      refine lv_aload_n hx hb dX7_isEnough_45 rfl (lv_at hl 1 rfl) ?_
      refine lv_iload_n hx hb dX7_isEnough_46 rfl (lv_at hl 4 rfl) ?_
      obtain ⟨u5_t_mossThen, h5, hM⟩ := mw_d1 hM
      have hPc := hP.sub (ws' := [(t, .inr (7, [.ref t_page, .int t_pageMany, .int t_end, .int t_clauses, .int t_rains, .int t_weekNext, .int t_breaths, .int t_wallsRead, .ref t_kinds, .ref t_deep, .ref t_leans, .ref t_moss, .ref t_rain, .ref t_mossThen, .ref t_when, .int t_needsDone, .int t_seenMany, .ref t_sights, .int t_seedNow, .int t_keptWall, .int t_keptWeek, .int t_keptBreaths, .int t_keptSeen, .ref t_keptKinds, .ref t_keptDeep, .ref t_keptLeans, .ref t_keptMoss, .ref t_keptSights, .long t_hash])), (t_kinds, .inl (cA, 6, .inl c_t_kinds)), (t_deep, .inl (cA, 6, .inl c_t_deep)), (t_leans, .inl (cA, 6, .inl c_t_leans)), (t_rain, .inl (cA, 8, .inl c_t_rain)), (t_mossThen, .inl (cA, 6, .inl y1_t_mossThen))]) [0, 1, 2, 3, 4, 6] rfl
      have hDc := hD.sub (ws' := [(t, .inr (7, [.ref t_page, .int t_pageMany, .int t_end, .int t_clauses, .int t_rains, .int t_weekNext, .int t_breaths, .int t_wallsRead, .ref t_kinds, .ref t_deep, .ref t_leans, .ref t_moss, .ref t_rain, .ref t_mossThen, .ref t_when, .int t_needsDone, .int t_seenMany, .ref t_sights, .int t_seedNow, .int t_keptWall, .int t_keptWeek, .int t_keptBreaths, .int t_keptSeen, .ref t_keptKinds, .ref t_keptDeep, .ref t_keptLeans, .ref t_keptMoss, .ref t_keptSights, .long t_hash])), (t_kinds, .inl (cA, 6, .inl c_t_kinds)), (t_deep, .inl (cA, 6, .inl c_t_deep)), (t_leans, .inl (cA, 6, .inl c_t_leans)), (t_rain, .inl (cA, 8, .inl c_t_rain)), (t_mossThen, .inl (cA, 6, .inl y1_t_mossThen))]) [0, 1, 2, 3, 4, 6] (by decide) rfl
      have hFc := va_free (wc := [(t, .inr (7, [.ref t_page, .int t_pageMany, .int t_end, .int t_clauses, .int t_rains, .int t_weekNext, .int t_breaths, .int t_wallsRead, .ref t_kinds, .ref t_deep, .ref t_leans, .ref t_moss, .ref t_rain, .ref t_mossThen, .ref t_when, .int t_needsDone, .int t_seenMany, .ref t_sights, .int t_seedNow, .int t_keptWall, .int t_keptWeek, .int t_keptBreaths, .int t_keptSeen, .ref t_keptKinds, .ref t_keptDeep, .ref t_keptLeans, .ref t_keptMoss, .ref t_keptSights, .long t_hash])), (t_kinds, .inl (cA, 6, .inl c_t_kinds)), (t_deep, .inl (cA, 6, .inl c_t_deep)), (t_leans, .inl (cA, 6, .inl c_t_leans)), (t_rain, .inl (cA, 8, .inl c_t_rain)), (t_mossThen, .inl (cA, 6, .inl y1_t_mossThen))]) hD hS hA [0, 1, 2, 3, 4, 6] rfl
      refine va_callv (va_runV (As := [.int p3]) (rest := []) ⟨hx, hb, hml, hown, hts⟩ (kX7_goOn l D cA t t_page t_kinds t_deep t_leans t_moss t_rain t_mossThen t_when t_sights t_keptKinds t_keptDeep t_keptLeans t_keptMoss t_keptSights _ t_pageMany t_end t_clauses t_rains t_weekNext t_breaths t_wallsRead t_needsDone t_seenMany t_seedNow t_keptWall t_keptWeek t_keptBreaths t_keptSeen t_hash c_t_kinds c_t_deep c_t_leans c_t_rain y1_t_mossThen p3 u5_t_mossThen h5) (cwV 1 hts gX7_isEnough_X7_goOn rfl rfl rfl (by decide +kernel) ⟨Nat.le_of_ble_eq_true rfl, Nat.le_of_ble_eq_true rfl⟩) ⟨mw_fbW, va_recv hK hP (ci := 7) (q0 := 0) rfl rfl, mw_puW hPc hE hDc⟩ rfl rfl hl.1 rfl (lv_room (Nat.le_of_ble_eq_true rfl)) dX7_isEnough_47 ⟨Nat.zero_le _, Nat.zero_le _⟩) hS (fun q _ h => hFc q h) hFc (fun _ t_ H locs ht_ _ _ hB_ _ hk_ hS => ?_)
      obtain ⟨hP1, hD1⟩ := hB_
      rw [ht_] at hP1
      obtain ⟨hP, hD⟩ := va_join (wr := [(t_moss, .inl (cA, 6, .inl c_t_moss))]) (w1 := [(t, .inr (7, [.ref t_page, .int t_pageMany, .int t_end, .int t_clauses, .int t_rains, .int t_weekNext, .int t_breaths, .int t_wallsRead, .ref t_kinds, .ref t_deep, .ref t_leans, .ref t_moss, .ref t_rain, .ref t_mossThen, .ref t_when, .int t_needsDone, .int t_seenMany, .ref t_sights, .int t_seedNow, .int t_keptWall, .int t_keptWeek, .int t_keptBreaths, .int t_keptSeen, .ref t_keptKinds, .ref t_keptDeep, .ref t_keptLeans, .ref t_keptMoss, .ref t_keptSights, .long t_hash])), (t_kinds, .inl (cA, 6, .inl c_t_kinds)), (t_deep, .inl (cA, 6, .inl c_t_deep)), (t_leans, .inl (cA, 6, .inl c_t_leans)), (t_rain, .inl (cA, 8, .inl c_t_rain)), (t_mossThen, .inl (cA, 6, .inl u5_t_mossThen))]) hP hD [0, 1, 2, 3, 4, 6] [5] rfl rfl (by decide) (by decide) hk_ hFc hP1 hD1
      have hP : va_P D vwCl [(t_moss, .inl (cA, 6, .inl c_t_moss)), (t, .inr (7, [.ref t_page, .int t_pageMany, .int t_end, .int t_clauses, .int t_rains, .int t_weekNext, .int t_breaths, .int t_wallsRead, .ref t_kinds, .ref t_deep, .ref t_leans, .ref t_moss, .ref t_rain, .ref t_mossThen, .ref t_when, .int t_needsDone, .int t_seenMany, .ref t_sights, .int t_seedNow, .int t_keptWall, .int t_keptWeek, .int t_keptBreaths, .int t_keptSeen, .ref t_keptKinds, .ref t_keptDeep, .ref t_keptLeans, .ref t_keptMoss, .ref t_keptSights, .long t_hash])), (t_kinds, .inl (cA, 6, .inl c_t_kinds)), (t_deep, .inl (cA, 6, .inl c_t_deep)), (t_leans, .inl (cA, 6, .inl c_t_leans)), (t_rain, .inl (cA, 8, .inl c_t_rain)), (t_mossThen, .inl (cA, 6, .inl u5_t_mossThen))] H := hP
      have hD : va_D A [(t_moss, .inl (cA, 6, .inl c_t_moss)), (t, .inr (7, [.ref t_page, .int t_pageMany, .int t_end, .int t_clauses, .int t_rains, .int t_weekNext, .int t_breaths, .int t_wallsRead, .ref t_kinds, .ref t_deep, .ref t_leans, .ref t_moss, .ref t_rain, .ref t_mossThen, .ref t_when, .int t_needsDone, .int t_seenMany, .ref t_sights, .int t_seedNow, .int t_keptWall, .int t_keptWeek, .int t_keptBreaths, .int t_keptSeen, .ref t_keptKinds, .ref t_keptDeep, .ref t_keptLeans, .ref t_keptMoss, .ref t_keptSights, .long t_hash])), (t_kinds, .inl (cA, 6, .inl c_t_kinds)), (t_deep, .inl (cA, 6, .inl c_t_deep)), (t_leans, .inl (cA, 6, .inl c_t_leans)), (t_rain, .inl (cA, 8, .inl c_t_rain)), (t_mossThen, .inl (cA, 6, .inl u5_t_mossThen))] := hD
      refine lv_aload_n hx hb dX7_isEnough_50 rfl (lv_at hl 1 rfl) ?_
      refine lv_aload_n hx hb dX7_isEnough_51 rfl (lv_at hl 1 rfl) ?_
      refine va_get (D := D) (ci := 7) (v := .ref t_mossThen) (C := RX7) (T := TX7) (N := 29) hx hb hts (fun _ h => List.mem_cons_of_mem _ (List.mem_append_right _ (h))) hown hK hP 1 rfl rfl 13 (by decide) (hts (.fieldLink RX7 28 "MossWallModel" "mossThen" "[I") (List.mem_cons_of_mem _ (List.mem_append_left _ (List.mem_append_left _ (List.mem_of_getElem? (i := 1) rfl))))) (fun _ h9 => h9) rfl dX7_isEnough_52 ?_
      obtain ⟨r6, h6, hM⟩ := mw_d1 hM
      have hPc := hP.sub (ws' := [(t, .inr (7, [.ref t_page, .int t_pageMany, .int t_end, .int t_clauses, .int t_rains, .int t_weekNext, .int t_breaths, .int t_wallsRead, .ref t_kinds, .ref t_deep, .ref t_leans, .ref t_moss, .ref t_rain, .ref t_mossThen, .ref t_when, .int t_needsDone, .int t_seenMany, .ref t_sights, .int t_seedNow, .int t_keptWall, .int t_keptWeek, .int t_keptBreaths, .int t_keptSeen, .ref t_keptKinds, .ref t_keptDeep, .ref t_keptLeans, .ref t_keptMoss, .ref t_keptSights, .long t_hash])), (t_deep, .inl (cA, 6, .inl c_t_deep)), (t_mossThen, .inl (cA, 6, .inl u5_t_mossThen))]) [1, 3, 6] rfl
      refine vp_callSi (va_Run.run (va_runV (As := [.ref t_mossThen]) (rest := []) ⟨hx, hb, hml, hown, hts⟩ (kX7_closedBits l D cA t t_mossThen t_page t_kinds t_deep t_leans t_moss t_rain t_mossThen t_when t_sights t_keptKinds t_keptDeep t_keptLeans t_keptMoss t_keptSights t_pageMany t_end t_clauses t_rains t_weekNext t_breaths t_wallsRead t_needsDone t_seenMany t_seedNow t_keptWall t_keptWeek t_keptBreaths t_keptSeen t_hash c_t_deep 6 u5_t_mossThen r6 h6) (cwV 1 hts gX7_isEnough_X7_closedBits rfl rfl rfl (by decide +kernel) ⟨Nat.le_of_ble_eq_true rfl, Nat.le_of_ble_eq_true rfl⟩) ⟨mw_fbR, va_recv hK hP (ci := 7) (q0 := 1) rfl rfl, mw_puR hPc hE⟩ rfl rfl hl.1 rfl (lv_room (Nat.le_of_ble_eq_true rfl)) dX7_isEnough_55 ⟨Nat.zero_le _, Nat.zero_le _⟩)) (fun v_ e_ => ?_)
      subst v_
      refine lv_iload_n hx hb dX7_isEnough_58 rfl (lv_at hl 3 rfl) ?_
      refine lv_iand hx hb dX7_isEnough_59 ?_
      refine lv_iload_n hx hb dX7_isEnough_60 rfl (lv_at hl 3 rfl) ?_
      refine lv_icmp_ne (tgt := 68) hx hb dX7_isEnough_61 (by decide) (fun q7 => ?_) (fun q7 => ?_)
      · replace hM := mw_f hM q7
        refine lv_iconst (v := 0) hx hb dX7_isEnough_68 (by decide) ?_
        have hP := hP.sub (ws' := [(t, .inr (7, [.ref t_page, .int t_pageMany, .int t_end, .int t_clauses, .int t_rains, .int t_weekNext, .int t_breaths, .int t_wallsRead, .ref t_kinds, .ref t_deep, .ref t_leans, .ref t_moss, .ref t_rain, .ref t_mossThen, .ref t_when, .int t_needsDone, .int t_seenMany, .ref t_sights, .int t_seedNow, .int t_keptWall, .int t_keptWeek, .int t_keptBreaths, .int t_keptSeen, .ref t_keptKinds, .ref t_keptDeep, .ref t_keptLeans, .ref t_keptMoss, .ref t_keptSights, .long t_hash])), (t_kinds, .inl (cA, 6, .inl c_t_kinds)), (t_deep, .inl (cA, 6, .inl c_t_deep)), (t_leans, .inl (cA, 6, .inl c_t_leans)), (t_moss, .inl (cA, 6, .inl c_t_moss)), (t_rain, .inl (cA, 8, .inl c_t_rain)), (t_mossThen, .inl (cA, 6, .inl u5_t_mossThen))]) [1, 2, 3, 4, 0, 5, 6] rfl
        have hD := hD.sub (ws' := [(t, .inr (7, [.ref t_page, .int t_pageMany, .int t_end, .int t_clauses, .int t_rains, .int t_weekNext, .int t_breaths, .int t_wallsRead, .ref t_kinds, .ref t_deep, .ref t_leans, .ref t_moss, .ref t_rain, .ref t_mossThen, .ref t_when, .int t_needsDone, .int t_seenMany, .ref t_sights, .int t_seedNow, .int t_keptWall, .int t_keptWeek, .int t_keptBreaths, .int t_keptSeen, .ref t_keptKinds, .ref t_keptDeep, .ref t_keptLeans, .ref t_keptMoss, .ref t_keptSights, .long t_hash])), (t_kinds, .inl (cA, 6, .inl c_t_kinds)), (t_deep, .inl (cA, 6, .inl c_t_deep)), (t_leans, .inl (cA, 6, .inl c_t_leans)), (t_moss, .inl (cA, 6, .inl c_t_moss)), (t_rain, .inl (cA, 8, .inl c_t_rain)), (t_mossThen, .inl (cA, 6, .inl u5_t_mossThen))]) [1, 2, 3, 4, 0, 5, 6] (by decide) rfl
        obtain ⟨rfl, rfl⟩ := mw_o2 hM
        subst hQ
        exact W.zret hx hb hr rfl (fun t ht hW => ⟨⟨_, (), rfl, ⟨rfl, rfl⟩, by rw [ht]; exact hP, hD⟩, hS.F ht⟩) hS.2.2 dX7_isEnough_69
      · replace hM := mw_t hM q7
        refine lv_iconst (v := 1) hx hb dX7_isEnough_64 (by decide) ?_
        refine lv_goto (tgt := 69) hx hb dX7_isEnough_65 (by decide) ?_
        have hP := hP.sub (ws' := [(t, .inr (7, [.ref t_page, .int t_pageMany, .int t_end, .int t_clauses, .int t_rains, .int t_weekNext, .int t_breaths, .int t_wallsRead, .ref t_kinds, .ref t_deep, .ref t_leans, .ref t_moss, .ref t_rain, .ref t_mossThen, .ref t_when, .int t_needsDone, .int t_seenMany, .ref t_sights, .int t_seedNow, .int t_keptWall, .int t_keptWeek, .int t_keptBreaths, .int t_keptSeen, .ref t_keptKinds, .ref t_keptDeep, .ref t_keptLeans, .ref t_keptMoss, .ref t_keptSights, .long t_hash])), (t_kinds, .inl (cA, 6, .inl c_t_kinds)), (t_deep, .inl (cA, 6, .inl c_t_deep)), (t_leans, .inl (cA, 6, .inl c_t_leans)), (t_moss, .inl (cA, 6, .inl c_t_moss)), (t_rain, .inl (cA, 8, .inl c_t_rain)), (t_mossThen, .inl (cA, 6, .inl u5_t_mossThen))]) [1, 2, 3, 4, 0, 5, 6] rfl
        have hD := hD.sub (ws' := [(t, .inr (7, [.ref t_page, .int t_pageMany, .int t_end, .int t_clauses, .int t_rains, .int t_weekNext, .int t_breaths, .int t_wallsRead, .ref t_kinds, .ref t_deep, .ref t_leans, .ref t_moss, .ref t_rain, .ref t_mossThen, .ref t_when, .int t_needsDone, .int t_seenMany, .ref t_sights, .int t_seedNow, .int t_keptWall, .int t_keptWeek, .int t_keptBreaths, .int t_keptSeen, .ref t_keptKinds, .ref t_keptDeep, .ref t_keptLeans, .ref t_keptMoss, .ref t_keptSights, .long t_hash])), (t_kinds, .inl (cA, 6, .inl c_t_kinds)), (t_deep, .inl (cA, 6, .inl c_t_deep)), (t_leans, .inl (cA, 6, .inl c_t_leans)), (t_moss, .inl (cA, 6, .inl c_t_moss)), (t_rain, .inl (cA, 8, .inl c_t_rain)), (t_mossThen, .inl (cA, 6, .inl u5_t_mossThen))]) [1, 2, 3, 4, 0, 5, 6] (by decide) rfl
        obtain ⟨rfl, rfl⟩ := mw_o2 hM
        subst hQ
        exact W.zret hx hb hr rfl (fun t ht hW => ⟨⟨_, (), rfl, ⟨rfl, rfl⟩, by rw [ht]; exact hP, hD⟩, hS.F ht⟩) hS.2.2 dX7_isEnough_69
  have L1 : ∀ (n1 : Nat) (x4_1 : Int32) (y1_t_mossThen : Nat → Int32) (H : Heap) (locs : List Loc) (ls : Array Slot), va_P D vwCl [(t, .inr (7, [.ref t_page, .int t_pageMany, .int t_end, .int t_clauses, .int t_rains, .int t_weekNext, .int t_breaths, .int t_wallsRead, .ref t_kinds, .ref t_deep, .ref t_leans, .ref t_moss, .ref t_rain, .ref t_mossThen, .ref t_when, .int t_needsDone, .int t_seenMany, .ref t_sights, .int t_seedNow, .int t_keptWall, .int t_keptWeek, .int t_keptBreaths, .int t_keptSeen, .ref t_keptKinds, .ref t_keptDeep, .ref t_keptLeans, .ref t_keptMoss, .ref t_keptSights, .long t_hash])), (t_kinds, .inl (cA, 6, .inl c_t_kinds)), (t_deep, .inl (cA, 6, .inl c_t_deep)), (t_leans, .inl (cA, 6, .inl c_t_leans)), (t_rain, .inl (cA, 8, .inl c_t_rain)), (t_moss, .inl (cA, 6, .inl c_t_moss)), (t_mossThen, .inl (cA, 6, .inl y1_t_mossThen))] H → va_D A [(t, .inr (7, [.ref t_page, .int t_pageMany, .int t_end, .int t_clauses, .int t_rains, .int t_weekNext, .int t_breaths, .int t_wallsRead, .ref t_kinds, .ref t_deep, .ref t_leans, .ref t_moss, .ref t_rain, .ref t_mossThen, .ref t_when, .int t_needsDone, .int t_seenMany, .ref t_sights, .int t_seedNow, .int t_keptWall, .int t_keptWeek, .int t_keptBreaths, .int t_keptSeen, .ref t_keptKinds, .ref t_keptDeep, .ref t_keptLeans, .ref t_keptMoss, .ref t_keptSights, .long t_hash])), (t_kinds, .inl (cA, 6, .inl c_t_kinds)), (t_deep, .inl (cA, 6, .inl c_t_deep)), (t_leans, .inl (cA, 6, .inl c_t_leans)), (t_rain, .inl (cA, 8, .inl c_t_rain)), (t_moss, .inl (cA, 6, .inl c_t_moss)), (t_mossThen, .inl (cA, 6, .inl y1_t_mossThen))] → va_S A s.heap H locs → lv_has ls 5 [(4, .int x4_1), (0, .ref t), (1, .int p1), (2, .int p2), (3, .int p3)] → mX7_isEnough_L1 k1_45 n1 x4_1 y1_t_mossThen = some (r, o_c_t_mossThen) → W p l e (headSpec wsX7_isEnough rmX7_isEnough).room s m (([.ref t, .int p1, .int p2, .int p3] : List Value).toArray) below meth c H locs 0 0 Q (F0 m 14 ls []) := by
      intro n1
      induction n1 with
      | zero =>
        intro x4_1 y1_t_mossThen H locs ls hP hD hS hl hM
        rw [mX7_isEnough_L1] at hM
        exact mw_none hM
      | succ n1 ih1 =>
        intro x4_1 y1_t_mossThen H locs ls hP hD hS hl hM
        rw [mX7_isEnough_L1] at hM
        refine lv_iload hx hb dX7_isEnough_14 (lv_at hl 0 rfl) ?_
        refine lv_if_le (tgt := 45) hx hb dX7_isEnough_16 (by decide) (fun q2 => ?_) (fun q2 => ?_)
        · replace hM := mw_t hM q2
          exact Ek1_45 x4_1 y1_t_mossThen _ _ _ hP hD hS (lv_sub hl [0, 1, 2, 3, 4] rfl) hM
        · replace hM := mw_f hM q2
          refine lv_aload_n hx hb dX7_isEnough_19 rfl (lv_at hl 1 rfl) ?_
          refine va_get (D := D) (ci := 7) (v := .ref t_mossThen) (C := RX7) (T := TX7) (N := 29) hx hb hts (fun _ h => List.mem_cons_of_mem _ (List.mem_append_right _ (h))) hown hK hP 0 rfl rfl 13 (by decide) (hts (.fieldLink RX7 28 "MossWallModel" "mossThen" "[I") (List.mem_cons_of_mem _ (List.mem_append_left _ (List.mem_append_left _ (List.mem_of_getElem? (i := 1) rfl))))) (fun _ h9 => h9) rfl dX7_isEnough_20 ?_
          refine lv_iload hx hb dX7_isEnough_23 (lv_at hl 0 rfl) ?_
          refine lv_bipush (v := 10) hx hb dX7_isEnough_25 (by decide) ?_
          refine lv_irem hx hb dX7_isEnough_27 (by decide) ?_
          refine lv_iconst (v := 1) hx hb dX7_isEnough_28 (by decide) ?_
          refine lv_isub hx hb dX7_isEnough_29 ?_
          refine lv_dup2_11 hx hb dX7_isEnough_30 rfl rfl ?_
          obtain ⟨e3, h3, hM⟩ := mw_d1 hM
          refine mw_iald hx hb hK hP 6 0 rfl rfl h3 dX7_isEnough_31 ?_
          refine lv_iconst (v := 1) hx hb dX7_isEnough_32 (by decide) ?_
          refine lv_iadd hx hb dX7_isEnough_33 ?_
          obtain ⟨a4_mossThen, h4, hM⟩ := mw_d1 hM
          refine mw_iast hx hb hK hP hD hS 6 0 rfl rfl h4 dX7_isEnough_34 (fun H locs hP hD hS => ?_)
          have hP : va_P D vwCl [(t, .inr (7, [.ref t_page, .int t_pageMany, .int t_end, .int t_clauses, .int t_rains, .int t_weekNext, .int t_breaths, .int t_wallsRead, .ref t_kinds, .ref t_deep, .ref t_leans, .ref t_moss, .ref t_rain, .ref t_mossThen, .ref t_when, .int t_needsDone, .int t_seenMany, .ref t_sights, .int t_seedNow, .int t_keptWall, .int t_keptWeek, .int t_keptBreaths, .int t_keptSeen, .ref t_keptKinds, .ref t_keptDeep, .ref t_keptLeans, .ref t_keptMoss, .ref t_keptSights, .long t_hash])), (t_kinds, .inl (cA, 6, .inl c_t_kinds)), (t_deep, .inl (cA, 6, .inl c_t_deep)), (t_leans, .inl (cA, 6, .inl c_t_leans)), (t_rain, .inl (cA, 8, .inl c_t_rain)), (t_moss, .inl (cA, 6, .inl c_t_moss)), (t_mossThen, .inl (cA, 6, .inl a4_mossThen))] H := hP
          have hD : va_D A [(t, .inr (7, [.ref t_page, .int t_pageMany, .int t_end, .int t_clauses, .int t_rains, .int t_weekNext, .int t_breaths, .int t_wallsRead, .ref t_kinds, .ref t_deep, .ref t_leans, .ref t_moss, .ref t_rain, .ref t_mossThen, .ref t_when, .int t_needsDone, .int t_seenMany, .ref t_sights, .int t_seedNow, .int t_keptWall, .int t_keptWeek, .int t_keptBreaths, .int t_keptSeen, .ref t_keptKinds, .ref t_keptDeep, .ref t_keptLeans, .ref t_keptMoss, .ref t_keptSights, .long t_hash])), (t_kinds, .inl (cA, 6, .inl c_t_kinds)), (t_deep, .inl (cA, 6, .inl c_t_deep)), (t_leans, .inl (cA, 6, .inl c_t_leans)), (t_rain, .inl (cA, 8, .inl c_t_rain)), (t_moss, .inl (cA, 6, .inl c_t_moss)), (t_mossThen, .inl (cA, 6, .inl a4_mossThen))] := hD
          refine lv_iload hx hb dX7_isEnough_35 (lv_at hl 0 rfl) ?_
          refine lv_bipush (v := 10) hx hb dX7_isEnough_37 (by decide) ?_
          refine lv_idiv hx hb dX7_isEnough_39 (by decide) ?_
          refine lv_istore (lv' := [(4, .int (x4_1 / 10)), (0, .ref t), (1, .int p1), (2, .int p2), (3, .int p3)]) hx hb dX7_isEnough_40 hl (by decide) rfl (fun ls hl => ?_)
          refine lv_goto (tgt := 14) hx hb dX7_isEnough_42 (by decide) ?_
          exact ih1 (x4_1 / 10) a4_mossThen _ _ _ hP hD hS (lv_sub hl [0, 1, 2, 3, 4] rfl) hM
  exact L1 300 p1 u1_t_mossThen _ _ _ hP hD hS hl (by rw [jk1_45]; exact hM)
def mX7_isRow_L1 (t_clauses : Int32) (k1_49 : Int32 → Int32 → Option Int32) : Nat → Int32 → Int32 → Option Int32
  | 0, _, _ => none
  | n1 + 1, x3_1, x2_1 =>
    (if x3_1 ≤ 0 then k1_49 x3_1 x2_1 else (mX7_in (Int32.toInt64 (mw_re x3_1 10)) 1 (Int32.toInt64 t_clauses)).bind fun r2 => (if r2 = 0 then some 0 else (if (mw_re x3_1 10) ≤ x2_1 then mX7_isRow_L1 t_clauses k1_49 n1 (x3_1 / 10) (mw_re x3_1 10) else some 0)))
def mX7_isRow (t_clauses : Int32) (p1 : Int32) : Option Int32 :=
  mX7_isRow_L1 t_clauses (fun (x3_1 : Int32) (x2_1 : Int32) => some 1) 300 p1 10
abbrev rmX7_isRow : Room := ({ frames := 1, cells := 0, slots := 0, locals := 25 } : Room)
set_option maxHeartbeats 4000000 in
set_option maxRecDepth 100000 in
theorem kX7_isRow (l : Launch) (D : va_G) (cA : ClassId) (t t_page t_kinds t_deep t_leans t_moss t_rain t_mossThen t_when t_sights t_keptKinds t_keptDeep t_keptLeans t_keptMoss t_keptSights : Nat) (t_pageMany : Int32) (t_end : Int32) (t_clauses : Int32) (t_rains : Int32) (t_weekNext : Int32) (t_breaths : Int32) (t_wallsRead : Int32) (t_needsDone : Int32) (t_seenMany : Int32) (t_seedNow : Int32) (t_keptWall : Int32) (t_keptWeek : Int32) (t_keptBreaths : Int32) (t_keptSeen : Int32) (t_hash : Int64) (p1 : Int32) (r : Int32) (hM : mX7_isRow t_clauses p1 = some r) : Met l yX7_isRow wsX7_isRow rmX7_isRow (va_Pc [.ref t, .int p1] (fun U => va_P D vwCl [(t, .inr (7, [.ref t_page, .int t_pageMany, .int t_end, .int t_clauses, .int t_rains, .int t_weekNext, .int t_breaths, .int t_wallsRead, .ref t_kinds, .ref t_deep, .ref t_leans, .ref t_moss, .ref t_rain, .ref t_mossThen, .ref t_when, .int t_needsDone, .int t_seenMany, .ref t_sights, .int t_seedNow, .int t_keptWall, .int t_keptWeek, .int t_keptBreaths, .int t_keptSeen, .ref t_keptKinds, .ref t_keptDeep, .ref t_keptLeans, .ref t_keptMoss, .ref t_keptSights, .long t_hash]))] U.heap ∧ mw_ev D cA U)) (vp_Si (fun v => v = r ∧ narrow .boolean (.int v) = .int v)) 0 0 (fun _ => False) := by
  unfold mX7_isRow at hM
  refine Met.ofW (cc := cX7_isRow) (maxL := 5) (ret := (some .boolean)) (by decide) rfl ?_
  intro p e s m args below meth c s₁ B hml hv
  obtain ⟨rfl, hP, hE⟩ := hv
  have hx := B.exec
  have hb := B.bytes
  have hr := B.returns
  have hts := atoms_spec (ws := wsX7_isRow) B.pre
  have hown : s.vm.findClass RX7 = some m.cls := findClass_of_methodNamed B.named
  have hlocks := B.notSynchronized
  have hK := hE.1
  have hl := lv_entry ([.ref t, .int p1]) (n := 5) (Nat.le_of_ble_eq_true rfl)
  rw [lg_entry_eq]
  generalize (lg_sl ([.ref t, .int p1]) ++ List.replicate (5 - (lg_sl ([.ref t, .int p1])).length) Slot.unset).toArray = ls at hl ⊢
  have hl : lv_has ls 5 [(0, .ref t), (1, .int p1)] := hl
  refine mw_q (P := fun Q => W p l e (headSpec wsX7_isRow rmX7_isRow).room s m (([.ref t, .int p1] : List Value).toArray) below meth c s.heap [] 0 0 Q (F0 m 0 ls [])) (fun Q hQ => ?_)
  refine lv_bipush (v := 10) hx hb dX7_isRow_0 (by decide) ?_
  refine lv_istore_n (lv' := [(2, .int 10), (0, .ref t), (1, .int p1)]) hx hb dX7_isRow_2 rfl hl (by decide) rfl (fun ls hl => ?_)
  refine lv_iload_n hx hb dX7_isRow_3 rfl (lv_at hl 2 rfl) ?_
  refine lv_istore_n (lv' := [(3, .int p1), (2, .int 10), (0, .ref t), (1, .int p1)]) hx hb dX7_isRow_4 rfl hl (by decide) rfl (fun ls hl => ?_)
  obtain ⟨k1_49, jk1_49⟩ : ∃ k : Int32 → Int32 → Option Int32, k = fun (x3_1 : Int32) (x2_1 : Int32) => some 1 := ⟨_, rfl⟩
  have Ek1_49 : ∀ (x3_1 : Int32) (x2_1 : Int32) (ls : Array Slot), lv_has ls 5 [(3, .int x3_1), (2, .int x2_1), (0, .ref t), (1, .int p1)] → k1_49 x3_1 x2_1 = some r → W p l e (headSpec wsX7_isRow rmX7_isRow).room s m (([.ref t, .int p1] : List Value).toArray) below meth c s.heap [] 0 0 Q (F0 m 49 ls []) := by
      intro x3_1 x2_1 ls hl hM
      rw [jk1_49] at hM
      refine lv_iconst (v := 1) hx hb dX7_isRow_49 (by decide) ?_
      obtain rfl := mw_o1 hM
      subst hQ
      exact W.zret hx hb hr rfl (fun t ht hW => ⟨_, rfl, ⟨rfl, rfl⟩, ht⟩) (fun q h => absurd h List.not_mem_nil) dX7_isRow_50
  have L1 : ∀ (n1 : Nat) (x3_1 : Int32) (x2_1 : Int32) (ls : Array Slot), lv_has ls 5 [(3, .int x3_1), (2, .int x2_1), (0, .ref t), (1, .int p1)] → mX7_isRow_L1 t_clauses k1_49 n1 x3_1 x2_1 = some r → W p l e (headSpec wsX7_isRow rmX7_isRow).room s m (([.ref t, .int p1] : List Value).toArray) below meth c s.heap [] 0 0 Q (F0 m 5 ls []) := by
      intro n1
      induction n1 with
      | zero =>
        intro x3_1 x2_1 ls hl hM
        rw [mX7_isRow_L1] at hM
        exact mw_none hM
      | succ n1 ih1 =>
        intro x3_1 x2_1 ls hl hM
        rw [mX7_isRow_L1] at hM
        refine lv_iload_n hx hb dX7_isRow_5 rfl (lv_at hl 0 rfl) ?_
        refine lv_if_le (tgt := 49) hx hb dX7_isRow_6 (by decide) (fun q1 => ?_) (fun q1 => ?_)
        · replace hM := mw_t hM q1
          exact Ek1_49 x3_1 x2_1 _ (lv_sub hl [0, 1, 2, 3] rfl) hM
        · replace hM := mw_f hM q1
          refine lv_iload_n hx hb dX7_isRow_9 rfl (lv_at hl 0 rfl) ?_
          refine lv_bipush (v := 10) hx hb dX7_isRow_10 (by decide) ?_
          refine lv_irem hx hb dX7_isRow_12 (by decide) ?_
          refine lv_istore (lv' := [(4, .int (mw_re x3_1 10)), (3, .int x3_1), (2, .int x2_1), (0, .ref t), (1, .int p1)]) hx hb dX7_isRow_13 hl (by decide) rfl (fun ls hl => ?_)
          refine lv_iload hx hb dX7_isRow_15 (lv_at hl 0 rfl) ?_
          refine lv_i2l (v := Int32.toInt64 (mw_re x3_1 10)) hx hb dX7_isRow_17 rfl ?_
          refine lv_lconst (v := 1) hx hb dX7_isRow_18 (by decide) ?_
          refine lv_aload_n hx hb dX7_isRow_19 rfl (lv_at hl 3 rfl) ?_
          refine va_get (D := D) (ci := 7) (v := .int t_clauses) (C := RX7) (T := TX7) (N := 29) hx hb hts (fun _ h => List.mem_cons_of_mem _ (List.mem_append_right _ (h))) hown hK hP 0 rfl rfl 3 (by decide) (hts (.fieldLink RX7 88 "MossWallModel" "clauses" "I") (List.mem_cons_of_mem _ (List.mem_append_left _ (List.mem_of_getElem? (i := 0) rfl)))) (fun _ h9 => h9) rfl dX7_isRow_20 ?_
          refine lv_i2l (v := Int32.toInt64 t_clauses) hx hb dX7_isRow_23 rfl ?_
          obtain ⟨r2, h2, hM⟩ := mw_d1 hM
          have hPc := hP.sub (ws' := []) [] rfl
          refine vp_callSi (va_Run.run (va_runS (As := [.long (Int32.toInt64 (mw_re x3_1 10)), .long 1, .long (Int32.toInt64 t_clauses)]) (rest := []) ⟨hx, hb, hml, hown, hts⟩ (kX7_in l D cA (Int32.toInt64 (mw_re x3_1 10)) 1 (Int32.toInt64 t_clauses) r2 h2) (va_cwS 3 hts gX7_isRow_X7_in rfl rfl rfl (by decide +kernel) ⟨Nat.le_of_ble_eq_true rfl, Nat.le_of_ble_eq_true rfl⟩) ⟨mw_fbR, mw_puR hPc hE⟩ rfl rfl hl.1 rfl (lv_room (Nat.le_of_ble_eq_true rfl)) dX7_isRow_24 ⟨Nat.zero_le _, Nat.zero_le _⟩)) (fun v_ e_ => ?_)
          obtain ⟨e_, b2⟩ := e_
          subst v_
          refine lv_if_eq (tgt := 36) hx hb dX7_isRow_27 (by decide) (fun q3 => ?_) (fun q3 => ?_)
          · replace hM := mw_t hM q3
            refine lv_iconst (v := 0) hx hb dX7_isRow_36 (by decide) ?_
            obtain rfl := mw_o1 hM
            subst hQ
            exact W.zret hx hb hr rfl (fun t ht hW => ⟨_, rfl, ⟨rfl, rfl⟩, ht⟩) (fun q h => absurd h List.not_mem_nil) dX7_isRow_37
          · replace hM := mw_f hM q3
            refine lv_iload hx hb dX7_isRow_30 (lv_at hl 0 rfl) ?_
            refine lv_iload_n hx hb dX7_isRow_32 rfl (lv_at hl 2 rfl) ?_
            refine lv_icmp_le (tgt := 38) hx hb dX7_isRow_33 (by decide) (fun q4 => ?_) (fun q4 => ?_)
            · replace hM := mw_t hM q4
              refine lv_iload hx hb dX7_isRow_38 (lv_at hl 0 rfl) ?_
              refine lv_istore_n (lv' := [(2, .int (mw_re x3_1 10)), (4, .int (mw_re x3_1 10)), (3, .int x3_1), (0, .ref t), (1, .int p1)]) hx hb dX7_isRow_40 rfl hl (by decide) rfl (fun ls hl => ?_)
              refine lv_iload_n hx hb dX7_isRow_41 rfl (lv_at hl 2 rfl) ?_
              refine lv_bipush (v := 10) hx hb dX7_isRow_42 (by decide) ?_
              refine lv_idiv hx hb dX7_isRow_44 (by decide) ?_
              refine lv_istore_n (lv' := [(3, .int (x3_1 / 10)), (2, .int (mw_re x3_1 10)), (4, .int (mw_re x3_1 10)), (0, .ref t), (1, .int p1)]) hx hb dX7_isRow_45 rfl hl (by decide) rfl (fun ls hl => ?_)
              refine lv_goto (tgt := 5) hx hb dX7_isRow_46 (by decide) ?_
              exact ih1 (x3_1 / 10) (mw_re x3_1 10) _ (lv_sub hl [0, 1, 3, 4] rfl) hM
            · replace hM := mw_f hM q4
              refine lv_iconst (v := 0) hx hb dX7_isRow_36 (by decide) ?_
              obtain rfl := mw_o1 hM
              subst hQ
              exact W.zret hx hb hr rfl (fun t ht hW => ⟨_, rfl, ⟨rfl, rfl⟩, ht⟩) (fun q h => absurd h List.not_mem_nil) dX7_isRow_37
  exact L1 300 p1 10 _ hl (by rw [jk1_49]; exact hM)
def mX7_needOf_L2  (k2_56 : Int32 → Int32 → Option (Int32 × (Nat → Int32))) : Nat → Int32 → Int32 → Option (Int32 × (Nat → Int32))
  | 0, _, _ => none
  | n2 + 1, x6_2, x5_2 =>
    (if x6_2 ≤ 0 then k2_56 x6_2 x5_2 else mX7_needOf_L2 k2_56 n2 (x6_2 / 10) (x5_2 + 1))
def mX7_needOf_L1 (t_clauses : Int32) (t_rains : Int32) (t_weekNext : Int32) (c_t_kinds : Nat → Int32) (c_t_deep : Nat → Int32) (c_t_leans : Nat → Int32) (c_t_moss : Nat → Int32) (c_t_rain : Nat → Int32) (p1 : Int32) (p2 : Int32) (p3 : Int32) (k1_74 : Int32 → (Nat → Int32) → Option (Int32 × (Nat → Int32))) : Nat → Int32 → (Nat → Int32) → Option (Int32 × (Nat → Int32))
  | 0, _, _ => none
  | n1 + 1, x4_1, y1_t_mossThen =>
    (if 10000 ≤ x4_1 then k1_74 x4_1 y1_t_mossThen else (mX7_isRow t_clauses x4_1).bind fun r2 => (if r2 = 0 then mX7_needOf_L1 t_clauses t_rains t_weekNext c_t_kinds c_t_deep c_t_leans c_t_moss c_t_rain p1 p2 p3 k1_74 n1 (x4_1 + 1) y1_t_mossThen else mw_b2 (mX7_isEnough t_clauses t_rains t_weekNext c_t_kinds c_t_deep c_t_leans c_t_moss c_t_rain y1_t_mossThen x4_1 p1 p2) fun r4 u4_t_mossThen => (if r4 = 0 then mX7_needOf_L1 t_clauses t_rains t_weekNext c_t_kinds c_t_deep c_t_leans c_t_moss c_t_rain p1 p2 p3 k1_74 n1 (x4_1 + 1) u4_t_mossThen else mX7_needOf_L2 (fun (x6_2 : Int32) (x5_2 : Int32) => (if p3 = 0 then some (x5_2, u4_t_mossThen) else some (x4_1, u4_t_mossThen))) 300 x4_1 0)))
def mX7_needOf (t_clauses : Int32) (t_rains : Int32) (t_weekNext : Int32) (c_t_kinds : Nat → Int32) (c_t_deep : Nat → Int32) (c_t_leans : Nat → Int32) (c_t_moss : Nat → Int32) (c_t_rain : Nat → Int32) (c_t_mossThen : Nat → Int32) (p1 : Int32) (p2 : Int32) (p3 : Int32) : Option (Int32 × (Nat → Int32)) :=
  mX7_needOf_L1 t_clauses t_rains t_weekNext c_t_kinds c_t_deep c_t_leans c_t_moss c_t_rain p1 p2 p3 (fun (x4_1 : Int32) (y1_t_mossThen : Nat → Int32) => some ((-1), y1_t_mossThen)) 20000 0 c_t_mossThen
abbrev rmX7_needOf : Room := ({ frames := 5, cells := 0, slots := 0, locals := 117 } : Room)
set_option maxHeartbeats 4000000 in
set_option maxRecDepth 100000 in
theorem kX7_needOf (l : Launch) (D : va_G) (cA : ClassId) (t t_page t_kinds t_deep t_leans t_moss t_rain t_mossThen t_when t_sights t_keptKinds t_keptDeep t_keptLeans t_keptMoss t_keptSights : Nat) (sz : Nat) (t_pageMany : Int32) (t_end : Int32) (t_clauses : Int32) (t_rains : Int32) (t_weekNext : Int32) (t_breaths : Int32) (t_wallsRead : Int32) (t_needsDone : Int32) (t_seenMany : Int32) (t_seedNow : Int32) (t_keptWall : Int32) (t_keptWeek : Int32) (t_keptBreaths : Int32) (t_keptSeen : Int32) (t_hash : Int64) (c_t_kinds : Nat → Int32) (c_t_deep : Nat → Int32) (c_t_leans : Nat → Int32) (c_t_moss : Nat → Int32) (c_t_rain : Nat → Int32) (c_t_mossThen : Nat → Int32) (p1 : Int32) (p2 : Int32) (p3 : Int32) (r : Int32) (o_c_t_mossThen : Nat → Int32) (hM : mX7_needOf t_clauses t_rains t_weekNext c_t_kinds c_t_deep c_t_leans c_t_moss c_t_rain c_t_mossThen p1 p2 p3 = some (r, o_c_t_mossThen)) : Met l yX7_needOf wsX7_needOf rmX7_needOf (va_Pc [.ref t, .int p1, .int p2, .int p3] (fun U => U.heap.size = sz ∧ va_P D vwCl [(t, .inr (7, [.ref t_page, .int t_pageMany, .int t_end, .int t_clauses, .int t_rains, .int t_weekNext, .int t_breaths, .int t_wallsRead, .ref t_kinds, .ref t_deep, .ref t_leans, .ref t_moss, .ref t_rain, .ref t_mossThen, .ref t_when, .int t_needsDone, .int t_seenMany, .ref t_sights, .int t_seedNow, .int t_keptWall, .int t_keptWeek, .int t_keptBreaths, .int t_keptSeen, .ref t_keptKinds, .ref t_keptDeep, .ref t_keptLeans, .ref t_keptMoss, .ref t_keptSights, .long t_hash])), (t_kinds, .inl (cA, 6, .inl c_t_kinds)), (t_deep, .inl (cA, 6, .inl c_t_deep)), (t_leans, .inl (cA, 6, .inl c_t_leans)), (t_moss, .inl (cA, 6, .inl c_t_moss)), (t_rain, .inl (cA, 8, .inl c_t_rain)), (t_mossThen, .inl (cA, 6, .inl c_t_mossThen))] U.heap ∧ mw_ev D cA U ∧ va_D (fun _ => True) [(t, .inr (7, [.ref t_page, .int t_pageMany, .int t_end, .int t_clauses, .int t_rains, .int t_weekNext, .int t_breaths, .int t_wallsRead, .ref t_kinds, .ref t_deep, .ref t_leans, .ref t_moss, .ref t_rain, .ref t_mossThen, .ref t_when, .int t_needsDone, .int t_seenMany, .ref t_sights, .int t_seedNow, .int t_keptWall, .int t_keptWeek, .int t_keptBreaths, .int t_keptSeen, .ref t_keptKinds, .ref t_keptDeep, .ref t_keptLeans, .ref t_keptMoss, .ref t_keptSights, .long t_hash])), (t_kinds, .inl (cA, 6, .inl c_t_kinds)), (t_deep, .inl (cA, 6, .inl c_t_deep)), (t_leans, .inl (cA, 6, .inl c_t_leans)), (t_moss, .inl (cA, 6, .inl c_t_moss)), (t_rain, .inl (cA, 8, .inl c_t_rain)), (t_mossThen, .inl (cA, 6, .inl c_t_mossThen))])) (va_Qi (fun (v : Int32) (_ : Unit) => v = r) (fun (_ : Unit) w_ => va_P D vwCl [(t, .inr (7, [.ref t_page, .int t_pageMany, .int t_end, .int t_clauses, .int t_rains, .int t_weekNext, .int t_breaths, .int t_wallsRead, .ref t_kinds, .ref t_deep, .ref t_leans, .ref t_moss, .ref t_rain, .ref t_mossThen, .ref t_when, .int t_needsDone, .int t_seenMany, .ref t_sights, .int t_seedNow, .int t_keptWall, .int t_keptWeek, .int t_keptBreaths, .int t_keptSeen, .ref t_keptKinds, .ref t_keptDeep, .ref t_keptLeans, .ref t_keptMoss, .ref t_keptSights, .long t_hash])), (t_kinds, .inl (cA, 6, .inl c_t_kinds)), (t_deep, .inl (cA, 6, .inl c_t_deep)), (t_leans, .inl (cA, 6, .inl c_t_leans)), (t_moss, .inl (cA, 6, .inl c_t_moss)), (t_rain, .inl (cA, 8, .inl c_t_rain)), (t_mossThen, .inl (cA, 6, .inl o_c_t_mossThen))] w_.heap ∧ va_D (va_A [(t, .inr (7, [.ref t_page, .int t_pageMany, .int t_end, .int t_clauses, .int t_rains, .int t_weekNext, .int t_breaths, .int t_wallsRead, .ref t_kinds, .ref t_deep, .ref t_leans, .ref t_moss, .ref t_rain, .ref t_mossThen, .ref t_when, .int t_needsDone, .int t_seenMany, .ref t_sights, .int t_seedNow, .int t_keptWall, .int t_keptWeek, .int t_keptBreaths, .int t_keptSeen, .ref t_keptKinds, .ref t_keptDeep, .ref t_keptLeans, .ref t_keptMoss, .ref t_keptSights, .long t_hash])), (t_kinds, .inl (cA, 6, .inl c_t_kinds)), (t_deep, .inl (cA, 6, .inl c_t_deep)), (t_leans, .inl (cA, 6, .inl c_t_leans)), (t_moss, .inl (cA, 6, .inl c_t_moss)), (t_rain, .inl (cA, 8, .inl c_t_rain)), (t_mossThen, .inl (cA, 6, .inl c_t_mossThen))] sz) [(t, .inr (7, [.ref t_page, .int t_pageMany, .int t_end, .int t_clauses, .int t_rains, .int t_weekNext, .int t_breaths, .int t_wallsRead, .ref t_kinds, .ref t_deep, .ref t_leans, .ref t_moss, .ref t_rain, .ref t_mossThen, .ref t_when, .int t_needsDone, .int t_seenMany, .ref t_sights, .int t_seedNow, .int t_keptWall, .int t_keptWeek, .int t_keptBreaths, .int t_keptSeen, .ref t_keptKinds, .ref t_keptDeep, .ref t_keptLeans, .ref t_keptMoss, .ref t_keptSights, .long t_hash])), (t_kinds, .inl (cA, 6, .inl c_t_kinds)), (t_deep, .inl (cA, 6, .inl c_t_deep)), (t_leans, .inl (cA, 6, .inl c_t_leans)), (t_moss, .inl (cA, 6, .inl c_t_moss)), (t_rain, .inl (cA, 8, .inl c_t_rain)), (t_mossThen, .inl (cA, 6, .inl o_c_t_mossThen))]) (va_A [(t, .inr (7, [.ref t_page, .int t_pageMany, .int t_end, .int t_clauses, .int t_rains, .int t_weekNext, .int t_breaths, .int t_wallsRead, .ref t_kinds, .ref t_deep, .ref t_leans, .ref t_moss, .ref t_rain, .ref t_mossThen, .ref t_when, .int t_needsDone, .int t_seenMany, .ref t_sights, .int t_seedNow, .int t_keptWall, .int t_keptWeek, .int t_keptBreaths, .int t_keptSeen, .ref t_keptKinds, .ref t_keptDeep, .ref t_keptLeans, .ref t_keptMoss, .ref t_keptSights, .long t_hash])), (t_kinds, .inl (cA, 6, .inl c_t_kinds)), (t_deep, .inl (cA, 6, .inl c_t_deep)), (t_leans, .inl (cA, 6, .inl c_t_leans)), (t_moss, .inl (cA, 6, .inl c_t_moss)), (t_rain, .inl (cA, 8, .inl c_t_rain)), (t_mossThen, .inl (cA, 6, .inl c_t_mossThen))] sz)) 0 0 (va_A [(t, .inr (7, [.ref t_page, .int t_pageMany, .int t_end, .int t_clauses, .int t_rains, .int t_weekNext, .int t_breaths, .int t_wallsRead, .ref t_kinds, .ref t_deep, .ref t_leans, .ref t_moss, .ref t_rain, .ref t_mossThen, .ref t_when, .int t_needsDone, .int t_seenMany, .ref t_sights, .int t_seedNow, .int t_keptWall, .int t_keptWeek, .int t_keptBreaths, .int t_keptSeen, .ref t_keptKinds, .ref t_keptDeep, .ref t_keptLeans, .ref t_keptMoss, .ref t_keptSights, .long t_hash])), (t_kinds, .inl (cA, 6, .inl c_t_kinds)), (t_deep, .inl (cA, 6, .inl c_t_deep)), (t_leans, .inl (cA, 6, .inl c_t_leans)), (t_moss, .inl (cA, 6, .inl c_t_moss)), (t_rain, .inl (cA, 8, .inl c_t_rain)), (t_mossThen, .inl (cA, 6, .inl c_t_mossThen))] sz) := by
  unfold mX7_needOf at hM
  refine Met.ofW (cc := cX7_needOf) (maxL := 7) (ret := (some .int)) (by decide) rfl ?_
  intro p e s m args below meth c s₁ B hml hv
  obtain ⟨rfl, hsz, hP, hE, hD0⟩ := hv
  have hx := B.exec
  have hb := B.bytes
  have hr := B.returns
  have hts := atoms_spec (ws := wsX7_needOf) B.pre
  have hown : s.vm.findClass RX7 = some m.cls := findClass_of_methodNamed B.named
  have hlocks := B.notSynchronized
  have hK := hE.1
  subst hsz
  have hD := hD0.self (sz := s.heap.size)
  generalize hAe : va_A [(t, .inr (7, [.ref t_page, .int t_pageMany, .int t_end, .int t_clauses, .int t_rains, .int t_weekNext, .int t_breaths, .int t_wallsRead, .ref t_kinds, .ref t_deep, .ref t_leans, .ref t_moss, .ref t_rain, .ref t_mossThen, .ref t_when, .int t_needsDone, .int t_seenMany, .ref t_sights, .int t_seedNow, .int t_keptWall, .int t_keptWeek, .int t_keptBreaths, .int t_keptSeen, .ref t_keptKinds, .ref t_keptDeep, .ref t_keptLeans, .ref t_keptMoss, .ref t_keptSights, .long t_hash])), (t_kinds, .inl (cA, 6, .inl c_t_kinds)), (t_deep, .inl (cA, 6, .inl c_t_deep)), (t_leans, .inl (cA, 6, .inl c_t_leans)), (t_moss, .inl (cA, 6, .inl c_t_moss)), (t_rain, .inl (cA, 8, .inl c_t_rain)), (t_mossThen, .inl (cA, 6, .inl c_t_mossThen))] s.heap.size = A at hD ⊢
  have hA : ∀ q : Nat, s.heap.size ≤ q → A q := fun q h => by rw [← hAe]; exact Or.inr h
  have hS : va_S A s.heap s.heap [] := va_S.rf
  have hl := lv_entry ([.ref t, .int p1, .int p2, .int p3]) (n := 7) (Nat.le_of_ble_eq_true rfl)
  rw [lg_entry_eq]
  generalize (lg_sl ([.ref t, .int p1, .int p2, .int p3]) ++ List.replicate (7 - (lg_sl ([.ref t, .int p1, .int p2, .int p3])).length) Slot.unset).toArray = ls at hl ⊢
  have hl : lv_has ls 7 [(0, .ref t), (1, .int p1), (2, .int p2), (3, .int p3)] := hl
  refine mw_q (P := fun Q => W p l e (headSpec wsX7_needOf rmX7_needOf).room s m (([.ref t, .int p1, .int p2, .int p3] : List Value).toArray) below meth c s.heap [] 0 0 Q (F0 m 0 ls [])) (fun Q hQ => ?_)
  refine lv_iconst (v := 0) hx hb dX7_needOf_0 (by decide) ?_
  refine lv_istore (lv' := [(4, .int 0), (0, .ref t), (1, .int p1), (2, .int p2), (3, .int p3)]) hx hb dX7_needOf_1 hl (by decide) rfl (fun ls hl => ?_)
  obtain ⟨k1_74, jk1_74⟩ : ∃ k : Int32 → (Nat → Int32) → Option (Int32 × (Nat → Int32)), k = fun (x4_1 : Int32) (y1_t_mossThen : Nat → Int32) => some ((-1), y1_t_mossThen) := ⟨_, rfl⟩
  have Ek1_74 : ∀ (x4_1 : Int32) (y1_t_mossThen : Nat → Int32) (H : Heap) (locs : List Loc) (ls : Array Slot), va_P D vwCl [(t, .inr (7, [.ref t_page, .int t_pageMany, .int t_end, .int t_clauses, .int t_rains, .int t_weekNext, .int t_breaths, .int t_wallsRead, .ref t_kinds, .ref t_deep, .ref t_leans, .ref t_moss, .ref t_rain, .ref t_mossThen, .ref t_when, .int t_needsDone, .int t_seenMany, .ref t_sights, .int t_seedNow, .int t_keptWall, .int t_keptWeek, .int t_keptBreaths, .int t_keptSeen, .ref t_keptKinds, .ref t_keptDeep, .ref t_keptLeans, .ref t_keptMoss, .ref t_keptSights, .long t_hash])), (t_kinds, .inl (cA, 6, .inl c_t_kinds)), (t_deep, .inl (cA, 6, .inl c_t_deep)), (t_leans, .inl (cA, 6, .inl c_t_leans)), (t_moss, .inl (cA, 6, .inl c_t_moss)), (t_rain, .inl (cA, 8, .inl c_t_rain)), (t_mossThen, .inl (cA, 6, .inl y1_t_mossThen))] H → va_D A [(t, .inr (7, [.ref t_page, .int t_pageMany, .int t_end, .int t_clauses, .int t_rains, .int t_weekNext, .int t_breaths, .int t_wallsRead, .ref t_kinds, .ref t_deep, .ref t_leans, .ref t_moss, .ref t_rain, .ref t_mossThen, .ref t_when, .int t_needsDone, .int t_seenMany, .ref t_sights, .int t_seedNow, .int t_keptWall, .int t_keptWeek, .int t_keptBreaths, .int t_keptSeen, .ref t_keptKinds, .ref t_keptDeep, .ref t_keptLeans, .ref t_keptMoss, .ref t_keptSights, .long t_hash])), (t_kinds, .inl (cA, 6, .inl c_t_kinds)), (t_deep, .inl (cA, 6, .inl c_t_deep)), (t_leans, .inl (cA, 6, .inl c_t_leans)), (t_moss, .inl (cA, 6, .inl c_t_moss)), (t_rain, .inl (cA, 8, .inl c_t_rain)), (t_mossThen, .inl (cA, 6, .inl y1_t_mossThen))] → va_S A s.heap H locs → lv_has ls 7 [(4, .int x4_1), (0, .ref t), (1, .int p1), (2, .int p2), (3, .int p3)] → k1_74 x4_1 y1_t_mossThen = some (r, o_c_t_mossThen) → W p l e (headSpec wsX7_needOf rmX7_needOf).room s m (([.ref t, .int p1, .int p2, .int p3] : List Value).toArray) below meth c H locs 0 0 Q (F0 m 74 ls []) := by
      intro x4_1 y1_t_mossThen H locs ls hP hD hS hl hM
      rw [jk1_74] at hM
      refine lv_iconst (v := (-1)) hx hb dX7_needOf_74 (by decide) ?_
      obtain ⟨rfl, rfl⟩ := mw_o2 hM
      subst hQ
      exact W.iret hx hb hr (fun t ht hW => ⟨⟨_, (), rfl, rfl, by rw [ht]; exact hP, hD⟩, hS.F ht⟩) hS.2.2 dX7_needOf_75
  have L1 : ∀ (n1 : Nat) (x4_1 : Int32) (y1_t_mossThen : Nat → Int32) (H : Heap) (locs : List Loc) (ls : Array Slot), va_P D vwCl [(t, .inr (7, [.ref t_page, .int t_pageMany, .int t_end, .int t_clauses, .int t_rains, .int t_weekNext, .int t_breaths, .int t_wallsRead, .ref t_kinds, .ref t_deep, .ref t_leans, .ref t_moss, .ref t_rain, .ref t_mossThen, .ref t_when, .int t_needsDone, .int t_seenMany, .ref t_sights, .int t_seedNow, .int t_keptWall, .int t_keptWeek, .int t_keptBreaths, .int t_keptSeen, .ref t_keptKinds, .ref t_keptDeep, .ref t_keptLeans, .ref t_keptMoss, .ref t_keptSights, .long t_hash])), (t_kinds, .inl (cA, 6, .inl c_t_kinds)), (t_deep, .inl (cA, 6, .inl c_t_deep)), (t_leans, .inl (cA, 6, .inl c_t_leans)), (t_moss, .inl (cA, 6, .inl c_t_moss)), (t_rain, .inl (cA, 8, .inl c_t_rain)), (t_mossThen, .inl (cA, 6, .inl y1_t_mossThen))] H → va_D A [(t, .inr (7, [.ref t_page, .int t_pageMany, .int t_end, .int t_clauses, .int t_rains, .int t_weekNext, .int t_breaths, .int t_wallsRead, .ref t_kinds, .ref t_deep, .ref t_leans, .ref t_moss, .ref t_rain, .ref t_mossThen, .ref t_when, .int t_needsDone, .int t_seenMany, .ref t_sights, .int t_seedNow, .int t_keptWall, .int t_keptWeek, .int t_keptBreaths, .int t_keptSeen, .ref t_keptKinds, .ref t_keptDeep, .ref t_keptLeans, .ref t_keptMoss, .ref t_keptSights, .long t_hash])), (t_kinds, .inl (cA, 6, .inl c_t_kinds)), (t_deep, .inl (cA, 6, .inl c_t_deep)), (t_leans, .inl (cA, 6, .inl c_t_leans)), (t_moss, .inl (cA, 6, .inl c_t_moss)), (t_rain, .inl (cA, 8, .inl c_t_rain)), (t_mossThen, .inl (cA, 6, .inl y1_t_mossThen))] → va_S A s.heap H locs → lv_has ls 7 [(4, .int x4_1), (0, .ref t), (1, .int p1), (2, .int p2), (3, .int p3)] → mX7_needOf_L1 t_clauses t_rains t_weekNext c_t_kinds c_t_deep c_t_leans c_t_moss c_t_rain p1 p2 p3 k1_74 n1 x4_1 y1_t_mossThen = some (r, o_c_t_mossThen) → W p l e (headSpec wsX7_needOf rmX7_needOf).room s m (([.ref t, .int p1, .int p2, .int p3] : List Value).toArray) below meth c H locs 0 0 Q (F0 m 3 ls []) := by
      intro n1
      induction n1 with
      | zero =>
        intro x4_1 y1_t_mossThen H locs ls hP hD hS hl hM
        rw [mX7_needOf_L1] at hM
        exact mw_none hM
      | succ n1 ih1 =>
        intro x4_1 y1_t_mossThen H locs ls hP hD hS hl hM
        rw [mX7_needOf_L1] at hM
        refine lv_iload hx hb dX7_needOf_3 (lv_at hl 0 rfl) ?_
        refine lv_sipush (v := 10000) hx hb dX7_needOf_5 (by decide) ?_
        refine lv_icmp_ge (tgt := 74) hx hb dX7_needOf_8 (by decide) (fun q1 => ?_) (fun q1 => ?_)
        · replace hM := mw_t hM q1
          exact Ek1_74 x4_1 y1_t_mossThen _ _ _ hP hD hS (lv_sub hl [0, 1, 2, 3, 4] rfl) hM
        · replace hM := mw_f hM q1
          refine lv_aload_n hx hb dX7_needOf_11 rfl (lv_at hl 1 rfl) ?_
          refine lv_iload hx hb dX7_needOf_12 (lv_at hl 0 rfl) ?_
          obtain ⟨r2, h2, hM⟩ := mw_d1 hM
          have hPc := hP.sub (ws' := [(t, .inr (7, [.ref t_page, .int t_pageMany, .int t_end, .int t_clauses, .int t_rains, .int t_weekNext, .int t_breaths, .int t_wallsRead, .ref t_kinds, .ref t_deep, .ref t_leans, .ref t_moss, .ref t_rain, .ref t_mossThen, .ref t_when, .int t_needsDone, .int t_seenMany, .ref t_sights, .int t_seedNow, .int t_keptWall, .int t_keptWeek, .int t_keptBreaths, .int t_keptSeen, .ref t_keptKinds, .ref t_keptDeep, .ref t_keptLeans, .ref t_keptMoss, .ref t_keptSights, .long t_hash]))]) [0] rfl
          refine vp_callSi (va_Run.run (va_runV (As := [.int x4_1]) (rest := []) ⟨hx, hb, hml, hown, hts⟩ (kX7_isRow l D cA t t_page t_kinds t_deep t_leans t_moss t_rain t_mossThen t_when t_sights t_keptKinds t_keptDeep t_keptLeans t_keptMoss t_keptSights t_pageMany t_end t_clauses t_rains t_weekNext t_breaths t_wallsRead t_needsDone t_seenMany t_seedNow t_keptWall t_keptWeek t_keptBreaths t_keptSeen t_hash x4_1 r2 h2) (cwV 1 hts gX7_needOf_X7_isRow rfl rfl rfl (by decide +kernel) ⟨Nat.le_of_ble_eq_true rfl, Nat.le_of_ble_eq_true rfl⟩) ⟨mw_fbR, va_recv hK hP (ci := 7) (q0 := 0) rfl rfl, mw_puR hPc hE⟩ rfl rfl hl.1 rfl (lv_room (Nat.le_of_ble_eq_true rfl)) dX7_needOf_14 ⟨Nat.zero_le _, Nat.zero_le _⟩)) (fun v_ e_ => ?_)
          obtain ⟨e_, b2⟩ := e_
          subst v_
          refine lv_if_eq (tgt := 68) hx hb dX7_needOf_17 (by decide) (fun q3 => ?_) (fun q3 => ?_)
          · replace hM := mw_t hM q3
            refine lv_iinc (v := x4_1 + 1) (lv' := [(4, .int (x4_1 + 1)), (0, .ref t), (1, .int p1), (2, .int p2), (3, .int p3)]) hx hb dX7_needOf_68 hl (k := 0) rfl (by first | rfl | decide) (by decide) rfl (fun ls hl => ?_)
            refine lv_goto (tgt := 3) hx hb dX7_needOf_71 (by decide) ?_
            exact ih1 (x4_1 + 1) y1_t_mossThen _ _ _ hP hD hS (lv_sub hl [0, 1, 2, 3, 4] rfl) hM
          · replace hM := mw_f hM q3
            refine lv_aload_n hx hb dX7_needOf_20 rfl (lv_at hl 1 rfl) ?_
            refine lv_iload hx hb dX7_needOf_21 (lv_at hl 0 rfl) ?_
            refine lv_iload_n hx hb dX7_needOf_23 rfl (lv_at hl 2 rfl) ?_
            refine lv_iload_n hx hb dX7_needOf_24 rfl (lv_at hl 3 rfl) ?_
            obtain ⟨r4, u4_t_mossThen, h4, hM⟩ := mw_d2 hM
            have hPc := hP.sub (ws' := [(t, .inr (7, [.ref t_page, .int t_pageMany, .int t_end, .int t_clauses, .int t_rains, .int t_weekNext, .int t_breaths, .int t_wallsRead, .ref t_kinds, .ref t_deep, .ref t_leans, .ref t_moss, .ref t_rain, .ref t_mossThen, .ref t_when, .int t_needsDone, .int t_seenMany, .ref t_sights, .int t_seedNow, .int t_keptWall, .int t_keptWeek, .int t_keptBreaths, .int t_keptSeen, .ref t_keptKinds, .ref t_keptDeep, .ref t_keptLeans, .ref t_keptMoss, .ref t_keptSights, .long t_hash])), (t_kinds, .inl (cA, 6, .inl c_t_kinds)), (t_deep, .inl (cA, 6, .inl c_t_deep)), (t_leans, .inl (cA, 6, .inl c_t_leans)), (t_moss, .inl (cA, 6, .inl c_t_moss)), (t_rain, .inl (cA, 8, .inl c_t_rain)), (t_mossThen, .inl (cA, 6, .inl y1_t_mossThen))]) [0, 1, 2, 3, 4, 5, 6] rfl
            have hDc := hD.sub (ws' := [(t, .inr (7, [.ref t_page, .int t_pageMany, .int t_end, .int t_clauses, .int t_rains, .int t_weekNext, .int t_breaths, .int t_wallsRead, .ref t_kinds, .ref t_deep, .ref t_leans, .ref t_moss, .ref t_rain, .ref t_mossThen, .ref t_when, .int t_needsDone, .int t_seenMany, .ref t_sights, .int t_seedNow, .int t_keptWall, .int t_keptWeek, .int t_keptBreaths, .int t_keptSeen, .ref t_keptKinds, .ref t_keptDeep, .ref t_keptLeans, .ref t_keptMoss, .ref t_keptSights, .long t_hash])), (t_kinds, .inl (cA, 6, .inl c_t_kinds)), (t_deep, .inl (cA, 6, .inl c_t_deep)), (t_leans, .inl (cA, 6, .inl c_t_leans)), (t_moss, .inl (cA, 6, .inl c_t_moss)), (t_rain, .inl (cA, 8, .inl c_t_rain)), (t_mossThen, .inl (cA, 6, .inl y1_t_mossThen))]) [0, 1, 2, 3, 4, 5, 6] (by decide) rfl
            have hFc := va_free (wc := [(t, .inr (7, [.ref t_page, .int t_pageMany, .int t_end, .int t_clauses, .int t_rains, .int t_weekNext, .int t_breaths, .int t_wallsRead, .ref t_kinds, .ref t_deep, .ref t_leans, .ref t_moss, .ref t_rain, .ref t_mossThen, .ref t_when, .int t_needsDone, .int t_seenMany, .ref t_sights, .int t_seedNow, .int t_keptWall, .int t_keptWeek, .int t_keptBreaths, .int t_keptSeen, .ref t_keptKinds, .ref t_keptDeep, .ref t_keptLeans, .ref t_keptMoss, .ref t_keptSights, .long t_hash])), (t_kinds, .inl (cA, 6, .inl c_t_kinds)), (t_deep, .inl (cA, 6, .inl c_t_deep)), (t_leans, .inl (cA, 6, .inl c_t_leans)), (t_moss, .inl (cA, 6, .inl c_t_moss)), (t_rain, .inl (cA, 8, .inl c_t_rain)), (t_mossThen, .inl (cA, 6, .inl y1_t_mossThen))]) hD hS hA [0, 1, 2, 3, 4, 5, 6] rfl
            refine va_calli (va_runV (As := [.int x4_1, .int p1, .int p2]) (rest := []) ⟨hx, hb, hml, hown, hts⟩ (kX7_isEnough l D cA t t_page t_kinds t_deep t_leans t_moss t_rain t_mossThen t_when t_sights t_keptKinds t_keptDeep t_keptLeans t_keptMoss t_keptSights _ t_pageMany t_end t_clauses t_rains t_weekNext t_breaths t_wallsRead t_needsDone t_seenMany t_seedNow t_keptWall t_keptWeek t_keptBreaths t_keptSeen t_hash c_t_kinds c_t_deep c_t_leans c_t_moss c_t_rain y1_t_mossThen x4_1 p1 p2 r4 u4_t_mossThen h4) (cwV 3 hts gX7_needOf_X7_isEnough rfl rfl rfl (by decide +kernel) ⟨Nat.le_of_ble_eq_true rfl, Nat.le_of_ble_eq_true rfl⟩) ⟨mw_fbW, va_recv hK hP (ci := 7) (q0 := 0) rfl rfl, mw_puW hPc hE hDc⟩ rfl rfl hl.1 rfl (lv_room (Nat.le_of_ble_eq_true rfl)) dX7_needOf_25 ⟨Nat.zero_le _, Nat.zero_le _⟩) hS (fun q _ h => hFc q h) hFc (fun v_ _ t_ H locs ht_ _ e_ hB_ _ hk_ hS => ?_)
            obtain ⟨e_, b4⟩ := e_
            subst v_
            obtain ⟨hP1, hD1⟩ := hB_
            rw [ht_] at hP1
            obtain ⟨hP, hD⟩ := va_join (wr := []) (w1 := [(t, .inr (7, [.ref t_page, .int t_pageMany, .int t_end, .int t_clauses, .int t_rains, .int t_weekNext, .int t_breaths, .int t_wallsRead, .ref t_kinds, .ref t_deep, .ref t_leans, .ref t_moss, .ref t_rain, .ref t_mossThen, .ref t_when, .int t_needsDone, .int t_seenMany, .ref t_sights, .int t_seedNow, .int t_keptWall, .int t_keptWeek, .int t_keptBreaths, .int t_keptSeen, .ref t_keptKinds, .ref t_keptDeep, .ref t_keptLeans, .ref t_keptMoss, .ref t_keptSights, .long t_hash])), (t_kinds, .inl (cA, 6, .inl c_t_kinds)), (t_deep, .inl (cA, 6, .inl c_t_deep)), (t_leans, .inl (cA, 6, .inl c_t_leans)), (t_moss, .inl (cA, 6, .inl c_t_moss)), (t_rain, .inl (cA, 8, .inl c_t_rain)), (t_mossThen, .inl (cA, 6, .inl u4_t_mossThen))]) hP hD [0, 1, 2, 3, 4, 5, 6] [] rfl rfl (by decide) (by decide) hk_ hFc hP1 hD1
            have hP : va_P D vwCl [(t, .inr (7, [.ref t_page, .int t_pageMany, .int t_end, .int t_clauses, .int t_rains, .int t_weekNext, .int t_breaths, .int t_wallsRead, .ref t_kinds, .ref t_deep, .ref t_leans, .ref t_moss, .ref t_rain, .ref t_mossThen, .ref t_when, .int t_needsDone, .int t_seenMany, .ref t_sights, .int t_seedNow, .int t_keptWall, .int t_keptWeek, .int t_keptBreaths, .int t_keptSeen, .ref t_keptKinds, .ref t_keptDeep, .ref t_keptLeans, .ref t_keptMoss, .ref t_keptSights, .long t_hash])), (t_kinds, .inl (cA, 6, .inl c_t_kinds)), (t_deep, .inl (cA, 6, .inl c_t_deep)), (t_leans, .inl (cA, 6, .inl c_t_leans)), (t_moss, .inl (cA, 6, .inl c_t_moss)), (t_rain, .inl (cA, 8, .inl c_t_rain)), (t_mossThen, .inl (cA, 6, .inl u4_t_mossThen))] H := hP
            have hD : va_D A [(t, .inr (7, [.ref t_page, .int t_pageMany, .int t_end, .int t_clauses, .int t_rains, .int t_weekNext, .int t_breaths, .int t_wallsRead, .ref t_kinds, .ref t_deep, .ref t_leans, .ref t_moss, .ref t_rain, .ref t_mossThen, .ref t_when, .int t_needsDone, .int t_seenMany, .ref t_sights, .int t_seedNow, .int t_keptWall, .int t_keptWeek, .int t_keptBreaths, .int t_keptSeen, .ref t_keptKinds, .ref t_keptDeep, .ref t_keptLeans, .ref t_keptMoss, .ref t_keptSights, .long t_hash])), (t_kinds, .inl (cA, 6, .inl c_t_kinds)), (t_deep, .inl (cA, 6, .inl c_t_deep)), (t_leans, .inl (cA, 6, .inl c_t_leans)), (t_moss, .inl (cA, 6, .inl c_t_moss)), (t_rain, .inl (cA, 8, .inl c_t_rain)), (t_mossThen, .inl (cA, 6, .inl u4_t_mossThen))] := hD
            refine lv_if_eq (tgt := 68) hx hb dX7_needOf_28 (by decide) (fun q5 => ?_) (fun q5 => ?_)
            · replace hM := mw_t hM q5
              refine lv_iinc (v := x4_1 + 1) (lv' := [(4, .int (x4_1 + 1)), (0, .ref t), (1, .int p1), (2, .int p2), (3, .int p3)]) hx hb dX7_needOf_68 hl (k := 0) rfl (by first | rfl | decide) (by decide) rfl (fun ls hl => ?_)
              refine lv_goto (tgt := 3) hx hb dX7_needOf_71 (by decide) ?_
              exact ih1 (x4_1 + 1) u4_t_mossThen _ _ _ hP hD hS (lv_sub hl [0, 1, 2, 3, 4] rfl) hM
            · replace hM := mw_f hM q5
              refine lv_iconst (v := 0) hx hb dX7_needOf_31 (by decide) ?_
              refine lv_istore (lv' := [(5, .int 0), (4, .int x4_1), (0, .ref t), (1, .int p1), (2, .int p2), (3, .int p3)]) hx hb dX7_needOf_32 hl (by decide) rfl (fun ls hl => ?_)
              refine lv_iload hx hb dX7_needOf_34 (lv_at hl 1 rfl) ?_
              refine lv_istore (lv' := [(6, .int x4_1), (5, .int 0), (4, .int x4_1), (0, .ref t), (1, .int p1), (2, .int p2), (3, .int p3)]) hx hb dX7_needOf_36 hl (by decide) rfl (fun ls hl => ?_)
              obtain ⟨k2_56, jk2_56⟩ : ∃ k : Int32 → Int32 → Option (Int32 × (Nat → Int32)), k = fun (x6_2 : Int32) (x5_2 : Int32) => (if p3 = 0 then some (x5_2, u4_t_mossThen) else some (x4_1, u4_t_mossThen)) := ⟨_, rfl⟩
              have Ek2_56 : ∀ (x6_2 : Int32) (x5_2 : Int32) (H : Heap) (locs : List Loc) (ls : Array Slot), va_P D vwCl [(t, .inr (7, [.ref t_page, .int t_pageMany, .int t_end, .int t_clauses, .int t_rains, .int t_weekNext, .int t_breaths, .int t_wallsRead, .ref t_kinds, .ref t_deep, .ref t_leans, .ref t_moss, .ref t_rain, .ref t_mossThen, .ref t_when, .int t_needsDone, .int t_seenMany, .ref t_sights, .int t_seedNow, .int t_keptWall, .int t_keptWeek, .int t_keptBreaths, .int t_keptSeen, .ref t_keptKinds, .ref t_keptDeep, .ref t_keptLeans, .ref t_keptMoss, .ref t_keptSights, .long t_hash])), (t_kinds, .inl (cA, 6, .inl c_t_kinds)), (t_deep, .inl (cA, 6, .inl c_t_deep)), (t_leans, .inl (cA, 6, .inl c_t_leans)), (t_moss, .inl (cA, 6, .inl c_t_moss)), (t_rain, .inl (cA, 8, .inl c_t_rain)), (t_mossThen, .inl (cA, 6, .inl u4_t_mossThen))] H → va_D A [(t, .inr (7, [.ref t_page, .int t_pageMany, .int t_end, .int t_clauses, .int t_rains, .int t_weekNext, .int t_breaths, .int t_wallsRead, .ref t_kinds, .ref t_deep, .ref t_leans, .ref t_moss, .ref t_rain, .ref t_mossThen, .ref t_when, .int t_needsDone, .int t_seenMany, .ref t_sights, .int t_seedNow, .int t_keptWall, .int t_keptWeek, .int t_keptBreaths, .int t_keptSeen, .ref t_keptKinds, .ref t_keptDeep, .ref t_keptLeans, .ref t_keptMoss, .ref t_keptSights, .long t_hash])), (t_kinds, .inl (cA, 6, .inl c_t_kinds)), (t_deep, .inl (cA, 6, .inl c_t_deep)), (t_leans, .inl (cA, 6, .inl c_t_leans)), (t_moss, .inl (cA, 6, .inl c_t_moss)), (t_rain, .inl (cA, 8, .inl c_t_rain)), (t_mossThen, .inl (cA, 6, .inl u4_t_mossThen))] → va_S A s.heap H locs → lv_has ls 7 [(6, .int x6_2), (5, .int x5_2), (4, .int x4_1), (0, .ref t), (1, .int p1), (2, .int p2), (3, .int p3)] → k2_56 x6_2 x5_2 = some (r, o_c_t_mossThen) → W p l e (headSpec wsX7_needOf rmX7_needOf).room s m (([.ref t, .int p1, .int p2, .int p3] : List Value).toArray) below meth c H locs 0 0 Q (F0 m 56 ls []) := by
                  intro x6_2 x5_2 H locs ls hP hD hS hl hM
                  rw [jk2_56] at hM
                  refine lv_iload_n hx hb dX7_needOf_56 rfl (lv_at hl 6 rfl) ?_
                  refine lv_if_ne (tgt := 65) hx hb dX7_needOf_57 (by decide) (fun q7 => ?_) (fun q7 => ?_)
                  · replace hM := mw_f hM q7
                    refine lv_iload hx hb dX7_needOf_65 (lv_at hl 2 rfl) ?_
                    obtain ⟨rfl, rfl⟩ := mw_o2 hM
                    subst hQ
                    exact W.iret hx hb hr (fun t ht hW => ⟨⟨_, (), rfl, rfl, by rw [ht]; exact hP, hD⟩, hS.F ht⟩) hS.2.2 dX7_needOf_67
                  · replace hM := mw_t hM q7
                    refine lv_iload hx hb dX7_needOf_60 (lv_at hl 1 rfl) ?_
                    refine lv_goto (tgt := 67) hx hb dX7_needOf_62 (by decide) ?_
                    obtain ⟨rfl, rfl⟩ := mw_o2 hM
                    subst hQ
                    exact W.iret hx hb hr (fun t ht hW => ⟨⟨_, (), rfl, rfl, by rw [ht]; exact hP, hD⟩, hS.F ht⟩) hS.2.2 dX7_needOf_67
              have L2 : ∀ (n2 : Nat) (x6_2 : Int32) (x5_2 : Int32) (H : Heap) (locs : List Loc) (ls : Array Slot), va_P D vwCl [(t, .inr (7, [.ref t_page, .int t_pageMany, .int t_end, .int t_clauses, .int t_rains, .int t_weekNext, .int t_breaths, .int t_wallsRead, .ref t_kinds, .ref t_deep, .ref t_leans, .ref t_moss, .ref t_rain, .ref t_mossThen, .ref t_when, .int t_needsDone, .int t_seenMany, .ref t_sights, .int t_seedNow, .int t_keptWall, .int t_keptWeek, .int t_keptBreaths, .int t_keptSeen, .ref t_keptKinds, .ref t_keptDeep, .ref t_keptLeans, .ref t_keptMoss, .ref t_keptSights, .long t_hash])), (t_kinds, .inl (cA, 6, .inl c_t_kinds)), (t_deep, .inl (cA, 6, .inl c_t_deep)), (t_leans, .inl (cA, 6, .inl c_t_leans)), (t_moss, .inl (cA, 6, .inl c_t_moss)), (t_rain, .inl (cA, 8, .inl c_t_rain)), (t_mossThen, .inl (cA, 6, .inl u4_t_mossThen))] H → va_D A [(t, .inr (7, [.ref t_page, .int t_pageMany, .int t_end, .int t_clauses, .int t_rains, .int t_weekNext, .int t_breaths, .int t_wallsRead, .ref t_kinds, .ref t_deep, .ref t_leans, .ref t_moss, .ref t_rain, .ref t_mossThen, .ref t_when, .int t_needsDone, .int t_seenMany, .ref t_sights, .int t_seedNow, .int t_keptWall, .int t_keptWeek, .int t_keptBreaths, .int t_keptSeen, .ref t_keptKinds, .ref t_keptDeep, .ref t_keptLeans, .ref t_keptMoss, .ref t_keptSights, .long t_hash])), (t_kinds, .inl (cA, 6, .inl c_t_kinds)), (t_deep, .inl (cA, 6, .inl c_t_deep)), (t_leans, .inl (cA, 6, .inl c_t_leans)), (t_moss, .inl (cA, 6, .inl c_t_moss)), (t_rain, .inl (cA, 8, .inl c_t_rain)), (t_mossThen, .inl (cA, 6, .inl u4_t_mossThen))] → va_S A s.heap H locs → lv_has ls 7 [(6, .int x6_2), (5, .int x5_2), (4, .int x4_1), (0, .ref t), (1, .int p1), (2, .int p2), (3, .int p3)] → mX7_needOf_L2 k2_56 n2 x6_2 x5_2 = some (r, o_c_t_mossThen) → W p l e (headSpec wsX7_needOf rmX7_needOf).room s m (([.ref t, .int p1, .int p2, .int p3] : List Value).toArray) below meth c H locs 0 0 Q (F0 m 38 ls []) := by
                  intro n2
                  induction n2 with
                  | zero =>
                    intro x6_2 x5_2 H locs ls hP hD hS hl hM
                    rw [mX7_needOf_L2] at hM
                    exact mw_none hM
                  | succ n2 ih2 =>
                    intro x6_2 x5_2 H locs ls hP hD hS hl hM
                    rw [mX7_needOf_L2] at hM
                    refine lv_iload hx hb dX7_needOf_38 (lv_at hl 0 rfl) ?_
                    refine lv_if_le (tgt := 56) hx hb dX7_needOf_40 (by decide) (fun q6 => ?_) (fun q6 => ?_)
                    · replace hM := mw_t hM q6
                      exact Ek2_56 x6_2 x5_2 _ _ _ hP hD hS (lv_sub hl [0, 1, 2, 3, 4, 5, 6] rfl) hM
                    · replace hM := mw_f hM q6
                      refine lv_iinc (v := x5_2 + 1) (lv' := [(5, .int (x5_2 + 1)), (6, .int x6_2), (4, .int x4_1), (0, .ref t), (1, .int p1), (2, .int p2), (3, .int p3)]) hx hb dX7_needOf_43 hl (k := 1) rfl (by first | rfl | decide) (by decide) rfl (fun ls hl => ?_)
                      refine lv_iload hx hb dX7_needOf_46 (lv_at hl 1 rfl) ?_
                      refine lv_bipush (v := 10) hx hb dX7_needOf_48 (by decide) ?_
                      refine lv_idiv hx hb dX7_needOf_50 (by decide) ?_
                      refine lv_istore (lv' := [(6, .int (x6_2 / 10)), (5, .int (x5_2 + 1)), (4, .int x4_1), (0, .ref t), (1, .int p1), (2, .int p2), (3, .int p3)]) hx hb dX7_needOf_51 hl (by decide) rfl (fun ls hl => ?_)
                      refine lv_goto (tgt := 38) hx hb dX7_needOf_53 (by decide) ?_
                      exact ih2 (x6_2 / 10) (x5_2 + 1) _ _ _ hP hD hS (lv_sub hl [0, 1, 2, 3, 4, 5, 6] rfl) hM
              exact L2 300 x4_1 0 _ _ _ hP hD hS hl (by rw [jk2_56]; exact hM)
  exact L1 20000 0 c_t_mossThen _ _ _ hP hD hS hl (by rw [jk1_74]; exact hM)
