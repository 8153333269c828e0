/-- the rows of digits, as four loops give them -/
def pw_r4 (n b e : Nat) : List Nat := (List.range' e (n + 1 - e)).map (fun x => b + x)
def pw_r3 (n b e : Nat) : List Nat := (List.range' e (n + 1 - e)).flatMap (fun x => pw_r4 n (b + 10 * x) x)
def pw_r2 (n b e : Nat) : List Nat := (List.range' e (n + 1 - e)).flatMap (fun x => pw_r3 n (b + 100 * x) x)
def pw_r1 (n : Nat) : List Nat := (List.range' 0 (n + 1)).flatMap (fun x => pw_r2 n (1000 * x) x)
theorem pw_so : ∀ n, n < 7 → (pw_r1 n).Pairwise (fun a b => a < b) := by decide +kernel
theorem pw_ext : ∀ (l1 l2 : List Nat), l1.Pairwise (fun a b => a < b) → l2.Pairwise (fun a b => a < b) → (∀ x, x ∈ l1 ↔ x ∈ l2) → l1 = l2
  | [], [], _, _, _ => rfl
  | [], b :: t, _, _, h => absurd ((h b).mpr List.mem_cons_self) List.not_mem_nil
  | a :: t, [], _, _, h => absurd ((h a).mp List.mem_cons_self) List.not_mem_nil
  | a :: t1, b :: t2, h1, h2, h => by
    have g1 := List.pairwise_cons.mp h1
    have g2 := List.pairwise_cons.mp h2
    have e : a = b := by
      rcases List.mem_cons.mp ((h a).mp List.mem_cons_self) with q | q
      · exact q
      · rcases List.mem_cons.mp ((h b).mpr List.mem_cons_self) with q2 | q2
        · exact q2.symm
        · have := g2.1 a q
          have := g1.1 b q2
          omega
    subst e
    rw [pw_ext t1 t2 g1.2 g2.2 (fun x => ⟨fun hx => ?_, fun hx => ?_⟩)]
    · rcases List.mem_cons.mp ((h x).mp (List.mem_cons_of_mem _ hx)) with q | q
      · have := g1.1 x hx; omega
      · exact q
    · rcases List.mem_cons.mp ((h x).mpr (List.mem_cons_of_mem _ hx)) with q | q
      · have := g2.1 x hx; omega
      · exact q
theorem pw_mem {n x : Nat} : x ∈ pw_r1 n ↔ ∃ a b c e, a ≤ b ∧ b ≤ c ∧ c ≤ e ∧ e ≤ n ∧ x = 1000 * a + 100 * b + 10 * c + e := by
  unfold pw_r1 pw_r2 pw_r3 pw_r4
  simp only [List.mem_flatMap, List.mem_map, List.mem_range'_1]
  constructor
  · rintro ⟨a, ha, b, hb, c, hc, e, he, rfl⟩
    exact ⟨a, b, c, e, by omega, by omega, by omega, by omega, rfl⟩
  · rintro ⟨a, b, c, e, h1, h2, h3, h4, rfl⟩
    exact ⟨a, by omega, b, by omega, c, by omega, e, by omega, rfl⟩
theorem pw_rt : ∀ n, n < 7 → ∀ a, a < 7 → ∀ b, b < 7 → ∀ c, c < 7 → ∀ e, e < 7 → a ≤ b → b ≤ c → c ≤ e → e ≤ n → pw_rw n 4 (1000 * a + 100 * b + 10 * c + e) 10 = true := by
  intro n hn a ha b hb c hc e he h1 h2 h3 h4
  have x1 : (1000 * a + 100 * b + 10 * c + e) % 10 = e := by omega
  have x2 : (1000 * a + 100 * b + 10 * c + e) / 10 = 100 * a + 10 * b + c := by omega
  have x3 : (100 * a + 10 * b + c) % 10 = c := by omega
  have x4 : (100 * a + 10 * b + c) / 10 = 10 * a + b := by omega
  have x5 : (10 * a + b) % 10 = b := by omega
  have x6 : (10 * a + b) / 10 = a := by omega
  have x7 : a % 10 = a := by omega
  rw [pw_rw, pw_rw, pw_rw, pw_rw, pw_rw, x1, x2, x3, x4, x5, x6, x7]
  repeat' split
  all_goals first | rfl | omega
theorem pw_rs {n x : Nat} (hn : n < 7) (hx : x < 10000) (h : pw_rw n 4 x 10 = true) : ∃ a b c e, a ≤ b ∧ b ≤ c ∧ c ≤ e ∧ e ≤ n ∧ x = 1000 * a + 100 * b + 10 * c + e := by
  refine ⟨x / 1000, x / 100 % 10, x / 10 % 10, x % 10, ?_⟩
  rw [pw_rw, pw_rw, pw_rw, pw_rw, pw_rw] at h
  have d2 : x / 10 / 10 = x / 100 := by omega
  have d3 : x / 100 / 10 = x / 1000 := by omega
  rw [d2, d3] at h
  by_cases q0 : x = 0
  · subst q0; omega
  · rw [if_neg q0] at h
    by_cases q1 : 1 ≤ x % 10 ∧ x % 10 ≤ n ∧ x % 10 ≤ 10
    · rw [if_pos q1] at h
      by_cases q2 : x / 10 = 0
      · omega
      · rw [if_neg q2] at h
        by_cases q3 : 1 ≤ x / 10 % 10 ∧ x / 10 % 10 ≤ n ∧ x / 10 % 10 ≤ x % 10
        · rw [if_pos q3] at h
          by_cases q4 : x / 100 = 0
          · omega
          · rw [if_neg q4] at h
            by_cases q5 : 1 ≤ x / 100 % 10 ∧ x / 100 % 10 ≤ n ∧ x / 100 % 10 ≤ x / 10 % 10
            · rw [if_pos q5] at h
              by_cases q6 : x / 1000 = 0
              · omega
              · rw [if_neg q6] at h
                by_cases q7 : 1 ≤ x / 1000 % 10 ∧ x / 1000 % 10 ≤ n ∧ x / 1000 % 10 ≤ x / 100 % 10
                · omega
                · rw [if_neg q7] at h; exact absurd h (by decide)
            · rw [if_neg q5] at h; exact absurd h (by decide)
        · rw [if_neg q3] at h; exact absurd h (by decide)
    · rw [if_neg q1] at h; exact absurd h (by decide)
theorem pw_rr (n : Nat) (hn : n < 7) : (List.range' 0 10000).filter (fun x => pw_rw n 4 x 10) = pw_r1 n := by
  refine pw_ext _ _ (List.Pairwise.filter _ List.pairwise_lt_range') (pw_so n hn) (fun x => ?_)
  rw [List.mem_filter, List.mem_range'_1, pw_mem]
  constructor
  · rintro ⟨h1, h2⟩
    exact pw_rs hn (by omega) h2
  · rintro ⟨a, b, c, e, h1, h2, h3, h4, rfl⟩
    exact ⟨by omega, pw_rt n hn a (by omega) b (by omega) c (by omega) e (by omega) h1 h2 h3 h4⟩
