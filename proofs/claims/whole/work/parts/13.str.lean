def mw_ky : Nat → Int32 := fun j => ([99, 100, 115, 102, 119] : List Int32).getD j 0
abbrev mw_ch (x : Int32) : Int32 := (x.toUInt32 % 65536).toInt32
abbrev mw_by (x : Int32) : Int32 := x.toInt8.toInt32
/-- the one String constant, and the static that its members read; A: what may change -/
def mw_sv (A : Nat → Prop) (qk qv : Nat) (U : State) : Prop := va_O "java/lang/String" qk A U U.heap ∧ va_OF "java/lang/String" "coder" "B" (.int 0) qk A U U.heap ∧ va_OF "java/lang/String" "value" "[B" (.ref qv) qk A U U.heap ∧ va_T .byte qv 5 (fun j => .int (mw_ky j)) A U U.heap ∧ va_Z "java/lang/String" "COMPACT_STRINGS" "Z" (.int 1) A U U.heap ∧ vk_R RX2 34 "cdsfw" qk U
theorem mw_sv.cd {A : Nat → Prop} {qk qv : Nat} {U : State} (h : mw_sv A qk qv U) : va_OF "java/lang/String" "coder" "B" (.int 0) qk A U U.heap := h.2.1
theorem mw_sv.va {A : Nat → Prop} {qk qv : Nat} {U : State} (h : mw_sv A qk qv U) : va_OF "java/lang/String" "value" "[B" (.ref qv) qk A U U.heap := h.2.2.1
theorem mw_sv.by {A : Nat → Prop} {qk qv : Nat} {U : State} (h : mw_sv A qk qv U) : va_T .byte qv 5 (fun j => .int (mw_ky j)) A U U.heap := h.2.2.2.1
theorem mw_sv.cs {A : Nat → Prop} {qk qv : Nat} {U : State} (h : mw_sv A qk qv U) : va_Z "java/lang/String" "COMPACT_STRINGS" "Z" (.int 1) A U U.heap := h.2.2.2.2.1
theorem mw_sv.tx {A : Nat → Prop} {qk qv : Nat} {U : State} (h : mw_sv A qk qv U) : vk_R RX2 34 "cdsfw" qk U := h.2.2.2.2.2
theorem mw_sv.recv {A : Nat → Prop} {qk qv : Nat} {s : State} {H : Heap} {locs : List Loc} (h : mw_sv A qk qv s) (hS : va_S A s.heap H locs) : ∃ cell : Cell, H[qk]? = some cell ∧ cell.vm.isStatics = false ∧ s.vm.findClass "java/lang/String" = some cell.cls := by
  obtain ⟨cell, h1, h2, h3, -⟩ := h.1.kept hS.2.1
  exact ⟨cell, h1, h2, h3⟩
theorem mw_sv.to {A B : Nat → Prop} {qk qv : Nat} {s : State} {H : Heap} {locs : List Loc} (h : mw_sv A qk qv s) (hS : va_S A s.heap H locs) (hAB : ∀ q, B q → A q) : ∀ U : State, U.heap = H → s.WarmedH U.vm → mw_sv B qk qv U := by
  intro U hU hW
  subst hU
  exact ⟨((h.1.kept hS.2.1).moved hW.alike).narrow hAB, ((h.2.1.kept hS.2.1).moved hW.alike).narrow hAB, ((h.2.2.1.kept hS.2.1).moved hW.alike).narrow hAB, ((h.2.2.2.1.kept hS.2.1).moved hW.alike).narrow hAB, ((h.2.2.2.2.1.kept hS.2.1).moved hW.alike).narrow hAB, vk_R.warm hW h.2.2.2.2.2⟩
theorem mw_sv.call {A : Nat → Prop} {qk qv : Nat} {U : State} (h : mw_sv A qk qv U) (g : JFrame) (mk : MethodId) (a : Array Value) : mw_sv A qk qv (U.calling g mk a) := 
  have hv : U.vm.Alike (U.calling g mk a).vm := Vm.Alike.refl U.vm
  ⟨h.1.moved hv, h.2.1.moved hv, h.2.2.1.moved hv, h.2.2.2.1.moved hv, h.2.2.2.2.1.moved hv, vk_R.same (U := U.calling g mk a) (u := U) rfl h.2.2.2.2.2⟩
theorem mw_fbRS {av : List Value} {D : va_G} {cA : ClassId} {W : va_W} {qk qv : Nat} : FrameBlind (va_Pc av (fun U => va_P D vwCl W U.heap ∧ mw_ev D cA U ∧ mw_sv (fun _ => False) qk qv U)) := fun a U g mk q => ⟨q.1, q.2.1, q.2.2.1.call g mk a, q.2.2.2.call g mk a⟩
theorem mw_puRS {av : List Value} {D : va_G} {cA : ClassId} {W : va_W} {qk qv : Nat} {s : State} {H : Heap} (hP : va_P D vwCl W H) (hE : mw_ev D cA s) (hV : ∀ U : State, U.heap = H → s.WarmedH U.vm → mw_sv (fun _ => False) qk qv U) : ∀ U : State, U.heap = H → s.WarmedH U.vm → va_Pc av (fun U => va_P D vwCl W U.heap ∧ mw_ev D cA U ∧ mw_sv (fun _ => False) qk qv U) av.toArray U := fun U hU hW => ⟨rfl, by rw [hU]; exact hP, hE.warm hW, hV U hU hW⟩
theorem mw_fbWS {av : List Value} {D : va_G} {cA : ClassId} {W : va_W} {sz qk qv : Nat} : FrameBlind (va_Pc av (fun U => U.heap.size = sz ∧ va_P D vwCl W U.heap ∧ mw_ev D cA U ∧ va_D (fun _ => True) W ∧ mw_sv (va_A W sz) qk qv U)) := fun a U g mk q => ⟨q.1, q.2.1, q.2.2.1, q.2.2.2.1.call g mk a, q.2.2.2.2.1, q.2.2.2.2.2.call g mk a⟩
theorem mw_puWS {av : List Value} {D : va_G} {cA : ClassId} {W : va_W} {A : Nat → Prop} {qk qv : Nat} {s : State} {H : Heap} (hP : va_P D vwCl W H) (hE : mw_ev D cA s) (hD : va_D A W) (hV : ∀ U : State, U.heap = H → s.WarmedH U.vm → mw_sv (va_A W H.size) qk qv U) : ∀ U : State, U.heap = H → s.WarmedH U.vm → va_Pc av (fun U => U.heap.size = H.size ∧ va_P D vwCl W U.heap ∧ mw_ev D cA U ∧ va_D (fun _ => True) W ∧ mw_sv (va_A W H.size) qk qv U) av.toArray U := fun U hU hW => ⟨rfl, by rw [hU], by rw [hU]; exact hP, hE.warm hW, hD.weaken (fun _ _ _ _ => trivial), hV U hU hW⟩
section MWS
variable {p : Program} {l : Launch} {e : Env} {R : Room} {s : State} {m : MethodId} {args : Array Value} {below : List Frame} {meth : Method} {c : Code} {H : Heap} {locs : List Loc} {cells slots : Nat} {Q : State → Prop}
variable {cc : ByteArray} {pc : Nat} {ls : Array Slot} {rest : List Value} {A : Nat → Prop}
theorem mw_bald (hexec : p.tables.exec = Jvm.exec) (hb : c.code = cc) {t n : Nat} {f : Nat → Int32} (hT : va_T .byte t n (fun j => .int (f j)) A s s.heap) (hS : va_S A s.heap H locs) {i v : Int32} (hr : mw_rd f n i = some v) (hdg : decode cc pc = .ok (.baload, 1))
    (kk : W p l e R s m args below meth c H locs cells slots Q (F0 m (pc + 1) ls (.int v :: rest))) : W p l e R s m args below meth c H locs cells slots Q (F0 m pc ls (.int i :: .ref t :: rest)) := by
  unfold mw_rd at hr
  split at hr
  · cases hr
  · rename_i hin
    cases hr
    exact va_tb hexec hb hT hS hin rfl hdg kk
end MWS
