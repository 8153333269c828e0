/-- the kind that a letter tells; 5 for none -/
def pw_ko (c : Nat) : Nat := if c = 99 then 0 else if c = 100 then 1 else if c = 115 then 2 else if c = 102 then 3 else if c = 119 then 4 else 5
theorem pw_ix : ∀ c, c < 127 → mJ0_indexOf_0f7a4 (mw_ch (nI c)) = some (if pw_ko c < 5 then nI (pw_ko c) else -1) := by decide +kernel
theorem pw_kb : ∀ c, c < 127 → mX7_kindBy (nI c) = some (if pw_ko c < 5 then nI (pw_ko c) else -1) := by decide +kernel
/-- a letter that fits among the clauses, at place i -/
def pw_fc2 (i c : Nat) : Bool := decide (i < 24) && (if i % 4 = 0 then decide (pw_ko c < 5) else if i % 4 = 1 then decide (49 ≤ c) && decide (c ≤ 57) else if i % 4 = 2 then decide (c = 45) || (decide (48 ≤ c) && decide (c < 48 + i / 4)) else decide (c = 59) || (decide (c = 44) && decide (i / 4 < 5)))
theorem pw_fq : ∀ i, i < 36 → ∀ c, c < 127 → mX2_fitsClause (nI i / 4) (mw_re (nI i) 4) (nI c) = some (pw_z (pw_fc2 i c)) := by decide +kernel
def pw_fr2 (j c : Nat) : Bool := decide (j < 8) && (decide (48 ≤ c) && decide (c ≤ 51))
theorem pw_fs : ∀ j, j < 36 → ∀ c, c < 127 → mX2_fitsRain (nI j) (nI c) = some (pw_z (pw_fr2 j c)) := by decide +kernel
theorem pw_cl7 : ∀ i, i < 24 → ∀ c, c < 127 → mX7_isClauseLetter 0 (fun _ => nI c) (nI i) = some (pw_z (pw_fc2 i c), if i % 4 = 3 ∧ c = 59 then nI i else 0) := by decide +kernel
theorem pw_clr {i c : Nat} {P : Nat → Int32} (hi : i < 24) (hc : c < 127) (hP : P i = nI c) : mX7_isClauseLetter 0 P (nI i) = some (pw_z (pw_fc2 i c), if i % 4 = 3 ∧ c = 59 then nI i else 0) := by
  rw [← pw_cl7 i hi c hc]
  unfold mX7_isClauseLetter
  rw [pw_rd (by omega) (by omega), pw_rd (by omega) (by omega), hP]
/-- THE PAGE -/
def pw_P (p : Nat) (C : Nat → Int32) (c : Nat → Nat) : Prop := p ≤ 36 ∧ (∀ i, i < p → C i = nI (c i)) ∧ ∀ i, i < p → c i < 127
/-- the place behind the first ';', or behind the page -/
def pw_rp (c : Nat → Nat) : Nat → Nat → Nat
  | 0, i => i
  | j + 1, i => if c i = 59 then i + 1 else pw_rp c j (i + 1)
theorem pw_rp_le (c : Nat → Nat) : ∀ j i, i ≤ pw_rp c j i ∧ pw_rp c j i ≤ i + j
  | 0, i => ⟨Nat.le_refl _, Nat.le_refl _⟩
  | j + 1, i => by
    have ih := pw_rp_le c j (i + 1)
    rw [pw_rp]
    split <;> omega
theorem pw_rp_no (c : Nat → Nat) : ∀ j i k, i ≤ k → k + 1 < pw_rp c j i → ¬ c k = 59
  | 0, i, k, h1, h2 => by rw [pw_rp] at h2; omega
  | j + 1, i, k, h1, h2 => by
    rw [pw_rp] at h2
    by_cases q : c i = 59
    · rw [if_pos q] at h2; omega
    · rw [if_neg q] at h2
      by_cases e : k = i
      · subst e; exact q
      · exact pw_rp_no c j (i + 1) k (by omega) h2
theorem pw_rp_yes (c : Nat → Nat) : ∀ j i, pw_rp c j i = i + j ∨ (i < pw_rp c j i ∧ c (pw_rp c j i - 1) = 59)
  | 0, i => Or.inl rfl
  | j + 1, i => by
    rw [pw_rp]
    by_cases q : c i = 59
    · rw [if_pos q]; exact Or.inr ⟨by omega, q⟩
    · rw [if_neg q]
      rcases pw_rp_yes c j (i + 1) with h | h
      · exact Or.inl (by omega)
      · exact Or.inr ⟨by omega, h.2⟩
theorem pw_e59 {a : Nat} (h : a < 2 ^ 30) : (nI a = 59) ↔ a = 59 := nI_eq (b := 59) (by omega) (by decide)
theorem pw_rpL {p : Nat} {C : Nat → Int32} {c : Nat → Nat} (h : pw_P p C c) : ∀ (j f i : Nat), p = i + j → j < f → mX2_rainPlace_L1 (nI p) C (fun _ => some (nI p)) f (nI i) = some (nI (pw_rp c j i))
  | 0, 0, i, _, h2 => absurd h2 (Nat.not_lt_zero 0)
  | j + 1, 0, i, _, h2 => absurd h2 (Nat.not_lt_zero _)
  | 0, f + 1, i, h1, h2 => by
    have hp := h.1
    have e : i = p := by omega
    subst e
    rw [mX2_rainPlace_L1, if_pos (nI_le (Nat.le_refl _) (by omega)), pw_rp]
  | j + 1, f + 1, i, h1, h2 => by
    have hp := h.1
    have hc := h.2.2 i (by omega)
    have ih := pw_rpL h j f (i + 1) (by omega) (by omega)
    rw [mX2_rainPlace_L1, if_neg (nI_ge (by omega) (by omega)), pw_rd (by omega) (by omega), pw_bs, h.2.1 i (by omega), nI_1, ih, pw_rp]
    by_cases q : c i = 59
    · rw [if_pos ((pw_e59 (by omega)).mpr q), if_pos q]
    · rw [if_neg (fun z => q ((pw_e59 (by omega)).mp z)), if_neg q]
theorem pw_RP {p : Nat} {C : Nat → Int32} {c : Nat → Nat} (h : pw_P p C c) : mX2_rainPlace (nI p) C = some (nI (pw_rp c p 0)) := by
  have hp := h.1
  unfold mX2_rainPlace
  exact pw_rpL h p 300 0 (by omega) (by omega)
def pw_ft (c : Nat → Nat) (r i : Nat) : Bool := if i < r then pw_fc2 i (c i) else pw_fr2 (i - r) (c i)
def pw_fp (c : Nat → Nat) (r : Nat) : Nat → Nat → Nat
  | 0, i => i
  | j + 1, i => if pw_ft c r i then pw_fp c r j (i + 1) else i
theorem pw_fp_le (c : Nat → Nat) (r : Nat) : ∀ j i, i ≤ pw_fp c r j i ∧ pw_fp c r j i ≤ i + j
  | 0, i => ⟨Nat.le_refl _, Nat.le_refl _⟩
  | j + 1, i => by
    have ih := pw_fp_le c r j (i + 1)
    rw [pw_fp]
    split <;> omega
theorem pw_fp_all {c : Nat → Nat} {r : Nat} : ∀ j i, pw_fp c r j i = i + j → ∀ k, i ≤ k → k < i + j → pw_ft c r k = true
  | 0, i, _, k, h1, h2 => by omega
  | j + 1, i, h, k, h1, h2 => by
    rw [pw_fp] at h
    by_cases q : pw_ft c r i = true
    · rw [if_pos q] at h
      by_cases e : k = i
      · subst e; exact q
      · exact pw_fp_all j (i + 1) (by omega) k (by omega) (by omega)
    · rw [if_neg q] at h; omega
theorem pw_re4 {x : Nat} (h : x < 2 ^ 30) : mw_re (nI x) 4 = nI (x % 4) := pk_rem (d := 4) (by omega) (by decide) (by decide)
theorem pw_f2L {p r : Nat} {C : Nat → Int32} {c : Nat → Nat} (h : pw_P p C c) (hr : r ≤ 36) : ∀ (j f i : Nat), p = i + j → j < f → mX2_faultPlace_L1 (nI p) C (nI r) (fun _ => some (nI p)) f (nI i) = some (nI (pw_fp c r j i))
  | 0, 0, i, _, h2 => absurd h2 (Nat.not_lt_zero 0)
  | j + 1, 0, i, _, h2 => absurd h2 (Nat.not_lt_zero _)
  | 0, f + 1, i, h1, h2 => by
    have hp := h.1
    have e : i = p := by omega
    subst e
    rw [mX2_faultPlace_L1, if_pos (nI_le (Nat.le_refl _) (by omega)), pw_fp]
  | j + 1, f + 1, i, h1, h2 => by
    have hp := h.1
    have hc := h.2.2 i (by omega)
    have ih := pw_f2L h hr j f (i + 1) (by omega) (by omega)
    rw [mX2_faultPlace_L1, if_neg (nI_ge (by omega) (by omega)), pw_rd (by omega) (by omega), pw_bs, pw_bs, h.2.1 i (by omega), nI_1, ih, pw_fp, pw_ft]
    by_cases q : i < r
    · rw [if_neg (nI_ge q (by omega)), if_pos q, pw_fq i (by omega) _ hc, pw_bs]
      by_cases e : pw_fc2 i (c i) = true
      · rw [e, pw_zt, if_neg pw_10, if_pos rfl]
      · have e' : pw_fc2 i (c i) = false := by simpa using e
        rw [e', pw_zf, if_pos rfl, if_neg (show ¬ false = true by decide)]
    · rw [if_pos (nI_le (by omega) (by omega)), if_neg q, pk_sub (by omega), pw_fs (i - r) (by omega) _ hc, pw_bs]
      by_cases e : pw_fr2 (i - r) (c i) = true
      · rw [e, pw_zt, if_neg pw_10, if_pos rfl]
      · have e' : pw_fr2 (i - r) (c i) = false := by simpa using e
        rw [e', pw_zf, if_pos rfl, if_neg (show ¬ false = true by decide)]
theorem pw_FP {p : Nat} {C : Nat → Int32} {c : Nat → Nat} (h : pw_P p C c) : mX2_faultPlace (nI p) C = some (nI (pw_fp c (pw_rp c p 0) p 0)) := by
  have hp := h.1
  have hl := pw_rp_le c p 0
  unfold mX2_faultPlace
  rw [pw_RP h, pw_bs]
  exact pw_f2L h (by omega) p 300 0 (by omega) (by omega)
/-- the reference, behind the ';' -/
theorem pw_f7R {p r : Nat} {C : Nat → Int32} {c : Nat → Nat} (h : pw_P p C c) (hr : 2 ≤ r) (hr2 : r ≤ 36) (kk : Int32 → Int32 → Option (Int32 × Int32)) : ∀ (j f i : Nat), p = i + j → j < f → r ≤ i → mX7_faultOf_L1 (nI p) C kk f (nI i) (nI (r - 1)) = kk (nI (pw_fp c r j i)) (nI (r - 1))
  | 0, 0, i, _, h2, _ => absurd h2 (Nat.not_lt_zero 0)
  | j + 1, 0, i, _, h2, _ => absurd h2 (Nat.not_lt_zero _)
  | 0, f + 1, i, h1, h2, h3 => by
    have hp := h.1
    have e : i = p := by omega
    subst e
    rw [mX7_faultOf_L1, if_pos (nI_le (Nat.le_refl _) (by omega)), pw_fp]
  | j + 1, f + 1, i, h1, h2, h3 => by
    have hp := h.1
    have hc := h.2.2 i (by omega)
    have ih := pw_f7R h hr hr2 kk j f (i + 1) (by omega) (by omega) (by omega)
    rw [mX7_faultOf_L1, if_neg (nI_ge (by omega) (by omega)), if_neg (nI_ne0 (by omega) (by omega)), show nI (r - 1) + 8 = nI (r - 1 + 8) from nI_add _ 8, pw_fp, pw_ft, if_neg (show ¬ i < r by omega)]
    unfold pw_fr2
    by_cases q : r - 1 + 8 < i
    · rw [if_pos (nI_lt q (by omega)), show decide (i - r < 8) = false from decide_eq_false (by omega), Bool.false_and, if_neg (by decide)]
    · rw [if_neg (nI_nlt (by omega) (by omega)), show decide (i - r < 8) = true from decide_eq_true (by omega), Bool.true_and, pw_rd (by omega) (by omega), pw_bs, h.2.1 i (by omega)]
      rw [show (48 : Int64) = Int32.toInt64 (nI 48) from rfl, show (51 : Int64) = Int32.toInt64 (nI 51) from rfl, pw_inN _ _ _ (by omega) (by decide) (by decide), pw_bs, nI_1, ih]
      by_cases e : 48 ≤ c i ∧ c i ≤ 51
      · rw [show decide (48 ≤ c i ∧ c i ≤ 51) = true from decide_eq_true e, pw_zt, if_neg pw_10, if_pos (by simp [e.1, e.2])]
      · rw [show decide (48 ≤ c i ∧ c i ≤ 51) = false from decide_eq_false e, pw_zf, if_pos rfl, if_neg (fun z => e (by simpa using z))]
theorem pw_fc59 : ∀ i, i < 24 → pw_fc2 i 59 = true → i % 4 = 3 := by decide +kernel
theorem pw_fc23 : ∀ c, c < 127 → pw_fc2 23 c = true → c = 59 := by decide +kernel
/-- among the clauses -/
theorem pw_f7L {p r : Nat} {C : Nat → Int32} {c : Nat → Nat} (h : pw_P p C c) (hrp : r = pw_rp c p 0) : ∀ (j f i : Nat), p = i + j → j < f → i ≤ 23 → (j = 0 ∨ i < r) → ∃ e, mX7_faultOf_L1 (nI p) C (fun x y => some (x, y)) f (nI i) 0 = some (nI (pw_fp c r j i), nI e) ∧ (pw_fp c r j i = p → e = if 1 ≤ r ∧ c (r - 1) = 59 ∧ i < r then r - 1 else 0)
  | 0, 0, i, _, h2, _, _ => absurd h2 (Nat.not_lt_zero 0)
  | j + 1, 0, i, _, h2, _, _ => absurd h2 (Nat.not_lt_zero _)
  | 0, f + 1, i, h1, h2, h3, h4 => by
    have hp := h.1
    have hl := pw_rp_le c p 0
    have e : i = p := by omega
    subst e
    refine ⟨0, ?_, fun _ => ?_⟩
    · rw [mX7_faultOf_L1, if_pos (nI_le (Nat.le_refl _) (by omega)), pw_fp]; rfl
    · rw [if_neg (by omega)]
  | j + 1, f + 1, i, h1, h2, h3, h4 => by
    have hp := h.1
    have hl := pw_rp_le c p 0
    have hc := h.2.2 i (by omega)
    have hir : i < r := by omega
    rw [mX7_faultOf_L1, if_neg (nI_ge (by omega) (by omega)), if_pos rfl, pw_clr (by omega) hc (h.2.1 i (by omega)), pw_n2, pw_fp, pw_ft, if_pos hir, nI_1]
    by_cases q : pw_fc2 i (c i) = true
    · rw [q, pw_zt, if_neg pw_10, if_pos rfl]
      by_cases e : c i = 59
      · have em : i % 4 = 3 := pw_fc59 i (by omega) (by rw [← e]; exact q)
        have er : r = i + 1 := by
          by_cases z : i + 1 < r
          · exact absurd e (pw_rp_no c p 0 i (by omega) (by rw [← hrp]; exact z))
          · omega
        rw [if_pos ⟨em, e⟩]
        have g := pw_f7R (r := r) h (by omega) (by omega) (fun x y => some (x, y)) j f (i + 1) (by omega) (by omega) (by omega)
        refine ⟨r - 1, ?_, fun _ => ?_⟩
        · rw [show nI i = nI (r - 1) from by rw [er]; rfl]; exact g
        · rw [if_pos ⟨by omega, by rw [er]; exact e, hir⟩]
      · rw [if_neg (fun z => e z.2)]
        have hy := pw_rp_yes c p 0
        rw [← hrp] at hy
        have hn : j = 0 ∨ i + 1 < r := by
          rcases hy with hy | hy
          · omega
          · by_cases z : r = i + 1
            · exfalso; rw [z] at hy; exact e hy.2
            · omega
        have h23 : i + 1 ≤ 23 ∨ i = 23 := by omega
        rcases h23 with h23 | h23
        · obtain ⟨e', g1, g2⟩ := pw_f7L h hrp j f (i + 1) (by omega) (by omega) h23 hn
          refine ⟨e', g1, fun z => ?_⟩
          rw [g2 z]
          by_cases w : i + 1 < r
          · by_cases w2 : 1 ≤ r ∧ c (r - 1) = 59
            · rw [if_pos ⟨w2.1, w2.2, w⟩, if_pos ⟨w2.1, w2.2, hir⟩]
            · rw [if_neg (fun z => w2 ⟨z.1, z.2.1⟩), if_neg (fun z => w2 ⟨z.1, z.2.1⟩)]
          · have er : r = i + 1 := by omega
            rw [if_neg (fun z => w z.2.2), if_neg (fun z => e (by have := z.2.1; rw [er] at this; exact this))]
        · subst h23
          exact absurd (pw_fc23 _ hc q) e
    · have q' : pw_fc2 i (c i) = false := by simpa using q
      rw [q', pw_zf, if_pos rfl, if_neg (show ¬ false = true by decide)]
      refine ⟨if i % 4 = 3 ∧ c i = 59 then i else 0, ?_, fun z => by omega⟩
      by_cases w : i % 4 = 3 ∧ c i = 59
      · rw [if_pos w, if_pos w]
      · rw [if_neg w, if_neg w]; rfl
theorem pw_FO7 {p : Nat} {C : Nat → Int32} {c : Nat → Nat} (h : pw_P p C c) (x : Int32) : ∃ e, mX7_faultOf (nI p) x C = some (nI (pw_fp c (pw_rp c p 0) p 0), nI e) ∧ (pw_fp c (pw_rp c p 0) p 0 = p → e = if 1 ≤ pw_rp c p 0 ∧ c (pw_rp c p 0 - 1) = 59 then pw_rp c p 0 - 1 else 0) := by
  have hp := h.1
  have hl := pw_rp_le c p 0
  have hy := pw_rp_yes c p 0
  unfold mX7_faultOf
  obtain ⟨e, g1, g2⟩ := pw_f7L h rfl p 300 0 (by omega) (by omega) (by omega) (by omega)
  refine ⟨e, g1, fun z => ?_⟩
  rw [g2 z]
  by_cases w : 1 ≤ pw_rp c p 0 ∧ c (pw_rp c p 0 - 1) = 59
  · rw [if_pos ⟨w.1, w.2, by omega⟩, if_pos w]
  · rw [if_neg (fun z => w ⟨z.1, z.2.1⟩), if_neg w]
