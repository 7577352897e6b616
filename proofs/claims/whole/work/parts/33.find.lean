/-! the teams of a hearing are found -/
set_option maxHeartbeats 2000000 in
theorem abC_iff {σ : Mem} {H p t : Int} : abC σ H p t = true ↔ ((0 ≤ p ∧ p < σ 3 2 ∧ p < 5) ∧ σ 5 (p * 20 + σ H 0) = 0) ∧ σ H 4 ≤ gdC σ p (σ H 5) t := by
  unfold abC; simp only [Bool.and_eq_true, decide_eq_true_eq]
set_option maxHeartbeats 2000000 in
theorem l_mk16 {d : Nat} {n : Nat} {Q : Pst} {σ0 : Mem} {H p mc : Int} {hH : 114 ≤ H} {hp : 0 ≤ p ∧ p ≤ 4} {hmc : mc = 0 ∨ mc = 1} : ∀ (k : Nat) (j : Nat) (σ : Mem), (GR σ) → (∀ c i, ¬ c = 20 → σ c i = σ0 c i) → (∀ t, 0 ≤ t → t < (j : Int) → σ 20 (p * 10 + t) = if mc = 1 ∧ σ0 H 4 ≤ σ0 13 t then 1 else 0) → (∀ i, ¬ (p * 10 ≤ i ∧ i < p * 10 + 10) → σ 20 i = σ0 20 i) → (j ≤ 10) → (10 - j < k) → (∀ τ, GR τ → (∀ c i, ¬ c = 20 → τ c i = σ0 c i) → (∀ t, 0 ≤ t → t < 10 → τ 20 (p * 10 + t) = if mc = 1 ∧ σ0 H 4 ≤ σ0 13 t then 1 else 0) → (∀ i, ¬ (p * 10 ≤ i ∧ i < p * 10 + 10) → τ 20 i = σ0 20 i) → Q none τ n) → EV d 74 42 [(19, 16), (0, p), (13, H), (16, 3), (15, 6), (0, mc), (50, 13), (0, (j : Int))] [] σ n Q := by
  intro k
  induction k with
  | zero => intros; exfalso; omega
  | succ k ih =>
    intro j σ hG hf hd ho hj hk hq
    have e13 := hf 13 j (by decide)
    have eH := hf H 4 (by omega)
    refine r16_74_42  (ht := fun c => ?_) (hf := fun c => ?_)
    · skip
      refine r16_74_89  (k := ?_)
      exact hq σ hG hf (fun t h0 h1 => hd t h0 (by omega)) ho
    · skip
      refine r16_74_49 (hG := hG) (ht := fun c => ?_) (hf := fun c => ?_)
      · skip
        refine r16_74_81 (h0 := (by first | decide | omega | (rw [show lnF 13 = 10 from by decide]; omega) | (rw [show lnF 20 = 50 from by decide]; simp (disch := omega) only [Zadd_eq, Zmul_eq]; omega))) (h1 := (by first | decide | omega | (rw [show lnF 13 = 10 from by decide]; omega) | (rw [show lnF 20 = 50 from by decide]; simp (disch := omega) only [Zadd_eq, Zmul_eq]; omega))) (k := ?_)
        rw [Zadd_nat (by omega), show Zadd (Zmul p 10) (j : Int) = p * 10 + j by (simp (disch := omega) only [Zadd_eq, Zmul_eq])]
        refine ih (j + 1) _ (GR.wrk hG (by decide)) (fun c i hc => by rw [wr_ne hc]; exact hf c i hc) (fun t h0 h1 => ?_) (fun i hi => ?_) (by omega) (by omega) hq
        · rw [wr_if]
          split
          · rename_i z
            have e : t = (j : Int) := by omega
            subst e
            (first | (rw [Zznar_01 (Or.inr rfl), if_pos ⟨by omega, by omega⟩]) | (rw [Zznar_01 (Or.inl rfl), if_neg (by omega)]))
          · rename_i z
            exact hd t h0 (by omega)
        · rw [wr_nej (by omega)]; exact ho i hi
      · skip
        refine r16_74_65 (h0 := (by first | decide | omega | (rw [show lnF 13 = 10 from by decide]; omega) | (rw [show lnF 20 = 50 from by decide]; simp (disch := omega) only [Zadd_eq, Zmul_eq]; omega))) (h1 := (by first | decide | omega | (rw [show lnF 13 = 10 from by decide]; omega) | (rw [show lnF 20 = 50 from by decide]; simp (disch := omega) only [Zadd_eq, Zmul_eq]; omega))) (h2 := (by first | decide | omega | (rw [show lnF 13 = 10 from by decide]; omega) | (rw [show lnF 20 = 50 from by decide]; simp (disch := omega) only [Zadd_eq, Zmul_eq]; omega))) (ht := fun c => ?_) (hf := fun c => ?_)
        · skip
          refine r16_74_81 (h0 := (by first | decide | omega | (rw [show lnF 13 = 10 from by decide]; omega) | (rw [show lnF 20 = 50 from by decide]; simp (disch := omega) only [Zadd_eq, Zmul_eq]; omega))) (h1 := (by first | decide | omega | (rw [show lnF 13 = 10 from by decide]; omega) | (rw [show lnF 20 = 50 from by decide]; simp (disch := omega) only [Zadd_eq, Zmul_eq]; omega))) (k := ?_)
          rw [Zadd_nat (by omega), show Zadd (Zmul p 10) (j : Int) = p * 10 + j by (simp (disch := omega) only [Zadd_eq, Zmul_eq])]
          refine ih (j + 1) _ (GR.wrk hG (by decide)) (fun c i hc => by rw [wr_ne hc]; exact hf c i hc) (fun t h0 h1 => ?_) (fun i hi => ?_) (by omega) (by omega) hq
          · rw [wr_if]
            split
            · rename_i z
              have e : t = (j : Int) := by omega
              subst e
              (first | (rw [Zznar_01 (Or.inr rfl), if_pos ⟨by omega, by omega⟩]) | (rw [Zznar_01 (Or.inl rfl), if_neg (by omega)]))
            · rename_i z
              exact hd t h0 (by omega)
          · rw [wr_nej (by omega)]; exact ho i hi
        · skip
          refine r16_74_77 (h0 := (by first | decide | omega | (rw [show lnF 13 = 10 from by decide]; omega) | (rw [show lnF 20 = 50 from by decide]; simp (disch := omega) only [Zadd_eq, Zmul_eq]; omega))) (h1 := (by first | decide | omega | (rw [show lnF 13 = 10 from by decide]; omega) | (rw [show lnF 20 = 50 from by decide]; simp (disch := omega) only [Zadd_eq, Zmul_eq]; omega))) (k := ?_)
          rw [Zadd_nat (by omega), show Zadd (Zmul p 10) (j : Int) = p * 10 + j by (simp (disch := omega) only [Zadd_eq, Zmul_eq])]
          refine ih (j + 1) _ (GR.wrk hG (by decide)) (fun c i hc => by rw [wr_ne hc]; exact hf c i hc) (fun t h0 h1 => ?_) (fun i hi => ?_) (by omega) (by omega) hq
          · rw [wr_if]
            split
            · rename_i z
              have e : t = (j : Int) := by omega
              subst e
              (first | (rw [Zznar_01 (Or.inr rfl), if_pos ⟨by omega, by omega⟩]) | (rw [Zznar_01 (Or.inl rfl), if_neg (by omega)]))
            · rename_i z
              exact hd t h0 (by omega)
          · rw [wr_nej (by omega)]; exact ho i hi
set_option maxHeartbeats 2000000 in
theorem s_mark16 {d : Nat} {σ : Mem} {n : Nat} {Q : Pst} {H p : Int} (hG : GR σ) (hP : PV σ) (hH : 114 ≤ H) (hp : 0 ≤ p ∧ p ≤ 4) (hc : 0 ≤ σ H 0 ∧ σ H 0 ≤ 19) (k : ∀ τ, GR τ → (∀ c i, ¬ c = 13 → ¬ c = 20 → τ c i = σ c i) → (∀ t, 0 ≤ t → t ≤ 9 → τ 20 (p * 10 + t) = if abC σ H p t = true then 1 else 0) → (∀ i, ¬ (p * 10 ≤ i ∧ i < p * 10 + 10) → τ 20 i = σ 20 i) → Q none τ n) : EVM (d + 3) 74 [(19, 16), (0, p), (13, H), (16, 3), (15, 6)] σ n Q := by
  show EV (d + 3) 74 0 [(19, 16), (0, p), (13, H), (16, 3), (15, 6), (9, 0), (9, 0), (9, 0)] [] σ n Q
  refine r16_74_0  (k := ?_)
  refine s_has (fun c => ?_) (fun c => ?_)
  · dsimp only [Option.toList_some, List.cons_append, List.nil_append]
    refine r16_74_5  (ht := fun c => absurd c (by decide)) (hf := fun _ => ?_)
    refine r16_74_8 (h0 := (by first | decide | omega | (rw [show lnF 13 = 10 from by decide]; omega) | (rw [show lnF 20 = 50 from by decide]; simp (disch := omega) only [Zadd_eq, Zmul_eq]; omega))) (k := ?_)
    refine s_isBarred hG (fun c => ?_) (fun c => ?_)
    · dsimp only [Option.toList_some, List.cons_append, List.nil_append]
      refine r16_74_17  (ht := fun _ => ?_) (hf := fun c => absurd c (by decide))
      refine r16_74_24 (h0 := (by first | decide | omega | (rw [show lnF 13 = 10 from by decide]; omega) | (rw [show lnF 20 = 50 from by decide]; simp (disch := omega) only [Zadd_eq, Zmul_eq]; omega))) (k := ?_)
      refine s_gradesOf hG hP (fun σ1 hG1 hf1 h1 => ?_)
      dsimp only [Option.toList_some, Option.toList_none, List.cons_append, List.nil_append]
      refine r16_74_37  (k := ?_)
      refine l_mk16 (σ0 := σ1) (hH := hH) (hp := hp) (hmc := by decide) 11 0 σ1 hG1 (fun _ _ _ => rfl) (fun t a b => by omega) (fun _ _ => rfl) (by omega) (by omega) (fun τ g1 g2 g3 g4 => k τ g1 (fun c i a b => by rw [g2 c i b, hf1 c i a]) (fun t a b => ?_) (fun i a => by rw [g4 i a, hf1 _ _ (by decide)]))
      rw [g3 t a (by omega), hf1 H 4 (by omega), h1 t a b]
      split
      · rw [if_pos (abC_iff.mpr (by omega))]
      · rw [if_neg (fun z => by have := abC_iff.mp z; omega)]
    · dsimp only [Option.toList_some, List.cons_append, List.nil_append]
      refine r16_74_17  (ht := fun c => absurd c (by decide)) (hf := fun _ => ?_)
      refine r16_74_20 (h0 := (by first | decide | omega | (rw [show lnF 13 = 10 from by decide]; omega) | (rw [show lnF 20 = 50 from by decide]; simp (disch := omega) only [Zadd_eq, Zmul_eq]; omega))) (k := ?_)
      refine s_gradesOf hG hP (fun σ1 hG1 hf1 h1 => ?_)
      dsimp only [Option.toList_some, Option.toList_none, List.cons_append, List.nil_append]
      refine r16_74_37  (k := ?_)
      refine l_mk16 (σ0 := σ1) (hH := hH) (hp := hp) (hmc := by decide) 11 0 σ1 hG1 (fun _ _ _ => rfl) (fun t a b => by omega) (fun _ _ => rfl) (by omega) (by omega) (fun τ g1 g2 g3 g4 => k τ g1 (fun c i a b => by rw [g2 c i b, hf1 c i a]) (fun t a b => ?_) (fun i a => by rw [g4 i a, hf1 _ _ (by decide)]))
      rw [g3 t a (by omega), hf1 H 4 (by omega), h1 t a b]
      split
      · rw [if_pos (abC_iff.mpr (by omega))]
      · rw [if_neg (fun z => by have := abC_iff.mp z; omega)]
  · dsimp only [Option.toList_some, List.cons_append, List.nil_append]
    refine r16_74_5  (ht := fun _ => ?_) (hf := fun c => absurd c (by decide))
    refine r16_74_24 (h0 := (by first | decide | omega | (rw [show lnF 13 = 10 from by decide]; omega) | (rw [show lnF 20 = 50 from by decide]; simp (disch := omega) only [Zadd_eq, Zmul_eq]; omega))) (k := ?_)
    refine s_gradesOf hG hP (fun σ1 hG1 hf1 h1 => ?_)
    dsimp only [Option.toList_some, Option.toList_none, List.cons_append, List.nil_append]
    refine r16_74_37  (k := ?_)
    refine l_mk16 (σ0 := σ1) (hH := hH) (hp := hp) (hmc := by decide) 11 0 σ1 hG1 (fun _ _ _ => rfl) (fun t a b => by omega) (fun _ _ => rfl) (by omega) (by omega) (fun τ g1 g2 g3 g4 => k τ g1 (fun c i a b => by rw [g2 c i b, hf1 c i a]) (fun t a b => ?_) (fun i a => by rw [g4 i a, hf1 _ _ (by decide)]))
    rw [g3 t a (by omega), hf1 H 4 (by omega), h1 t a b]
    split
    · rw [if_pos (abC_iff.mpr (by omega))]
    · rw [if_neg (fun z => by have := abC_iff.mp z; omega)]
set_option maxHeartbeats 2000000 in
theorem l_find16 {d : Nat} {n : Nat} {Q : Pst} {σ0 : Mem} {H : Int} (hP : PV σ0) (hH : 114 ≤ H) (hc : 0 ≤ σ0 H 0 ∧ σ0 H 0 ≤ 19) : ∀ (k j : Nat) (σ : Mem), GR σ → (∀ c i, ¬ c = 13 → ¬ c = 20 → σ c i = σ0 c i) → (∀ p t, 0 ≤ p → p < (j : Int) → 0 ≤ t → t ≤ 9 → σ 20 (p * 10 + t) = if abC σ0 H p t = true then 1 else 0) → j ≤ 5 → 5 - j < k → (∀ τ l, GR τ → (∀ c i, ¬ c = 13 → ¬ c = 20 → τ c i = σ0 c i) → AB 16 τ (abC σ0 H) → EV (d + 4) 69 29 [(19, 16), (13, H), (16, 3), (15, 6), (0, l)] [] τ n Q) → EV (d + 4) 69 8 [(19, 16), (13, H), (16, 3), (15, 6), (0, (j : Int))] [] σ n Q := by
  intro k
  induction k with
  | zero => intros; exfalso; omega
  | succ k ih =>
    intro j σ hG hf hd hj hk hq
    have lo : ∀ c i, (c ≤ 12 ∨ 114 ≤ c) → σ c i = σ0 c i := fun c i h => hf c i (by omega) (by omega)
    refine r16_69_8 (ht := fun c => ?_) (hf := fun c => ?_)
    · exact hq σ _ hG hf (fun p t h1 h2 h3 h4 => hd p t h1 (by omega) h3 h4)
    · refine r16_69_14 (k := ?_)
      have e0 := hf H 0 (by omega) (by omega)
      refine s_mark16 hG (hP.fr lo) hH (by omega) (by rw [e0]; exact hc) (fun τ g1 g2 g3 g4 => ?_)
      dsimp only [Option.toList_none, List.nil_append]
      refine r16_69_23 (k := ?_)
      rw [Zadd_nat (by omega)]
      refine ih (j + 1) τ g1 (fun c i a b => by rw [g2 c i a b, hf c i a b]) (fun p t h1 h2 h3 h4 => ?_) (by omega) (by omega) hq
      by_cases e : p = (j : Int)
      · subst e
        rw [g3 t h3 h4, abC_fr hH lo]
      · rw [g4 _ (by omega)]
        exact hd p t h1 (by omega) h3 h4
theorem s_find16 {d : Nat} {σ : Mem} {n : Nat} {Q : Pst} {H : Int} (hG : GR σ) (hP : PV σ) (hH : 114 ≤ H) (hc : 0 ≤ σ H 0 ∧ σ H 0 ≤ 19) (ht : 0 ≤ σ H 3 ∧ σ H 3 ≤ 9) (k : ∀ τ, GR τ → (∀ c i, ¬ c = 13 → ¬ (c = 16 ∧ i = 4) → ¬ (17 ≤ c ∧ c ≤ 20) → τ c i = σ c i) → τ 16 4 = ((tmL (abC σ H) 5 (90 < σ H 1) (σ H 3)).length : Int) → TLs τ 17 0 (tmL (abC σ H) 5 (90 < σ H 1) (σ H 3)) → Q none τ n) : EVM (d + 4) 69 [(19, 16), (13, H), (16, 3), (15, 6)] σ n Q := by
  show EV (d + 4) 69 0 [(19, 16), (13, H), (16, 3), (15, 6), (9, 0)] [] σ n Q
  refine r16_69_0 (k := ?_)
  have lo : ∀ c i, (c ≤ 12 ∨ 114 ≤ c) → wrM σ 16 4 0 c i = σ c i := fun c i h => wr_ne (by omega)
  have eH : ∀ i, wrM σ 16 4 0 H i = σ H i := fun i => lo H i (by omega)
  refine l_find16 (σ0 := wrM σ 16 4 0) (hP.fr lo) hH (by rw [eH]; exact hc) 6 0 _ (GR.wr hG (by decide)) (fun _ _ _ _ => rfl) (fun p t a b => by omega) (by omega) (by omega) ?_
  intro τ l g1 g2 g3
  have ab : abC (wrM σ 16 4 0) H = abC σ H := funext fun p => funext fun t => abC_fr hH lo p t
  rw [ab] at g3
  have e1 : τ H 1 = σ H 1 := by rw [g2 H 1 (by omega) (by omega), eH]
  have e3 : τ H 3 = σ H 3 := by rw [g2 H 3 (by omega) (by omega), eH]
  have L0 : TmS 16 τ τ [] := ⟨fun _ _ _ _ => rfl, by rw [g2 16 4 (by decide) (by decide), wr_same]; rfl, fun i e he => by simp at he⟩
  have fin : ∀ τ2 l2, TmS 16 τ τ2 l2 → l2 = tmL (abC σ H) 5 (90 < σ H 1) (σ H 3) → Q none τ2 n := fun τ2 l2 hL e => by
    subst e
    refine k τ2 (hL.GR16 g1) (fun c i q1 q2 q3 => ?_) hL.2.1 hL.2.2
    rw [hL.1 c i q2 (by omega), g2 c i q1 (by omega), wr_if, if_neg q2]
  refine r16_69_29 (h0 := by omega) (k := ?_)
  refine s_isLong (by omega) (fun c => ?_) (fun c => ?_)
  · dsimp only [Option.toList_some, List.cons_append, List.nil_append]
    refine r16_69_33 (ht := fun c => absurd c (by decide)) (hf := fun _ => ?_)
    refine r16_69_36 (h0 := by omega) (k := ?_)
    rw [e3]
    refine s_addPairs16 g1 g3 ht L0 (fun τ2 hL => ?_)
    dsimp only [Option.toList_none, List.nil_append]
    refine r16_69_44 (k := ?_)
    refine fin τ2 _ hL ?_
    unfold tmL
    rw [if_pos (by omega)]
  · dsimp only [Option.toList_some, List.cons_append, List.nil_append]
    refine r16_69_33 (ht := fun _ => ?_) (hf := fun c => absurd c (by decide))
    refine r16_69_45 (h0 := by omega) (k := ?_)
    rw [e3]
    refine s_addSingles16 g1 g3 ht L0 (fun τ2 hL => ?_)
    dsimp only [Option.toList_none, List.nil_append]
    have es := hL.2.1
    refine r16_69_53 (ht := fun c2 => ?_) (hf := fun c2 => ?_)
    · refine r16_69_68 (k := ?_)
      refine fin τ2 _ hL ?_
      unfold tmL
      rw [if_neg (by omega), if_neg (by omega)]
    · refine r16_69_60 (h0 := by omega) (k := ?_)
      rw [hL.1 H 3 (by omega) (by omega), e3]
      have hl0 : sgN (abC σ H) (σ H 3) 5 = [] := List.eq_nil_of_length_eq_zero (by omega)
      rw [hl0] at hL
      refine s_addRelays16 g1 g3 ht hL (fun τ3 hL3 => ?_)
      dsimp only [Option.toList_none, List.nil_append]
      refine r16_69_68 (k := ?_)
      refine fin τ3 _ hL3 ?_
      unfold tmL
      rw [if_neg (by omega), if_pos (by rw [hl0]; rfl)]
set_option maxHeartbeats 2000000 in
theorem l_mk26 {d : Nat} {n : Nat} {Q : Pst} {σ0 : Mem} {H p mc : Int} {hH : 114 ≤ H} {hp : 0 ≤ p ∧ p ≤ 4} {hmc : mc = 0 ∨ mc = 1} : ∀ (k : Nat) (j : Nat) (σ : Mem), (GR σ) → (∀ c i, ¬ c = 30 → σ c i = σ0 c i) → (∀ t, 0 ≤ t → t < (j : Int) → σ 30 (p * 10 + t) = if mc = 1 ∧ σ0 H 4 ≤ σ0 13 t then 1 else 0) → (∀ i, ¬ (p * 10 ≤ i ∧ i < p * 10 + 10) → σ 30 i = σ0 30 i) → (j ≤ 10) → (10 - j < k) → (∀ τ, GR τ → (∀ c i, ¬ c = 30 → τ c i = σ0 c i) → (∀ t, 0 ≤ t → t < 10 → τ 30 (p * 10 + t) = if mc = 1 ∧ σ0 H 4 ≤ σ0 13 t then 1 else 0) → (∀ i, ¬ (p * 10 ≤ i ∧ i < p * 10 + 10) → τ 30 i = σ0 30 i) → Q none τ n) → EV d 74 42 [(19, 26), (0, p), (13, H), (16, 3), (15, 6), (0, mc), (50, 13), (0, (j : Int))] [] σ n Q := by
  intro k
  induction k with
  | zero => intros; exfalso; omega
  | succ k ih =>
    intro j σ hG hf hd ho hj hk hq
    have e13 := hf 13 j (by decide)
    have eH := hf H 4 (by omega)
    refine r26_74_42  (ht := fun c => ?_) (hf := fun c => ?_)
    · skip
      refine r26_74_89  (k := ?_)
      exact hq σ hG hf (fun t h0 h1 => hd t h0 (by omega)) ho
    · skip
      refine r26_74_49 (hG := hG) (ht := fun c => ?_) (hf := fun c => ?_)
      · skip
        refine r26_74_81 (h0 := (by first | decide | omega | (rw [show lnF 13 = 10 from by decide]; omega) | (rw [show lnF 30 = 50 from by decide]; simp (disch := omega) only [Zadd_eq, Zmul_eq]; omega))) (h1 := (by first | decide | omega | (rw [show lnF 13 = 10 from by decide]; omega) | (rw [show lnF 30 = 50 from by decide]; simp (disch := omega) only [Zadd_eq, Zmul_eq]; omega))) (k := ?_)
        rw [Zadd_nat (by omega), show Zadd (Zmul p 10) (j : Int) = p * 10 + j by (simp (disch := omega) only [Zadd_eq, Zmul_eq])]
        refine ih (j + 1) _ (GR.wrk hG (by decide)) (fun c i hc => by rw [wr_ne hc]; exact hf c i hc) (fun t h0 h1 => ?_) (fun i hi => ?_) (by omega) (by omega) hq
        · rw [wr_if]
          split
          · rename_i z
            have e : t = (j : Int) := by omega
            subst e
            (first | (rw [Zznar_01 (Or.inr rfl), if_pos ⟨by omega, by omega⟩]) | (rw [Zznar_01 (Or.inl rfl), if_neg (by omega)]))
          · rename_i z
            exact hd t h0 (by omega)
        · rw [wr_nej (by omega)]; exact ho i hi
      · skip
        refine r26_74_65 (h0 := (by first | decide | omega | (rw [show lnF 13 = 10 from by decide]; omega) | (rw [show lnF 30 = 50 from by decide]; simp (disch := omega) only [Zadd_eq, Zmul_eq]; omega))) (h1 := (by first | decide | omega | (rw [show lnF 13 = 10 from by decide]; omega) | (rw [show lnF 30 = 50 from by decide]; simp (disch := omega) only [Zadd_eq, Zmul_eq]; omega))) (h2 := (by first | decide | omega | (rw [show lnF 13 = 10 from by decide]; omega) | (rw [show lnF 30 = 50 from by decide]; simp (disch := omega) only [Zadd_eq, Zmul_eq]; omega))) (ht := fun c => ?_) (hf := fun c => ?_)
        · skip
          refine r26_74_81 (h0 := (by first | decide | omega | (rw [show lnF 13 = 10 from by decide]; omega) | (rw [show lnF 30 = 50 from by decide]; simp (disch := omega) only [Zadd_eq, Zmul_eq]; omega))) (h1 := (by first | decide | omega | (rw [show lnF 13 = 10 from by decide]; omega) | (rw [show lnF 30 = 50 from by decide]; simp (disch := omega) only [Zadd_eq, Zmul_eq]; omega))) (k := ?_)
          rw [Zadd_nat (by omega), show Zadd (Zmul p 10) (j : Int) = p * 10 + j by (simp (disch := omega) only [Zadd_eq, Zmul_eq])]
          refine ih (j + 1) _ (GR.wrk hG (by decide)) (fun c i hc => by rw [wr_ne hc]; exact hf c i hc) (fun t h0 h1 => ?_) (fun i hi => ?_) (by omega) (by omega) hq
          · rw [wr_if]
            split
            · rename_i z
              have e : t = (j : Int) := by omega
              subst e
              (first | (rw [Zznar_01 (Or.inr rfl), if_pos ⟨by omega, by omega⟩]) | (rw [Zznar_01 (Or.inl rfl), if_neg (by omega)]))
            · rename_i z
              exact hd t h0 (by omega)
          · rw [wr_nej (by omega)]; exact ho i hi
        · skip
          refine r26_74_77 (h0 := (by first | decide | omega | (rw [show lnF 13 = 10 from by decide]; omega) | (rw [show lnF 30 = 50 from by decide]; simp (disch := omega) only [Zadd_eq, Zmul_eq]; omega))) (h1 := (by first | decide | omega | (rw [show lnF 13 = 10 from by decide]; omega) | (rw [show lnF 30 = 50 from by decide]; simp (disch := omega) only [Zadd_eq, Zmul_eq]; omega))) (k := ?_)
          rw [Zadd_nat (by omega), show Zadd (Zmul p 10) (j : Int) = p * 10 + j by (simp (disch := omega) only [Zadd_eq, Zmul_eq])]
          refine ih (j + 1) _ (GR.wrk hG (by decide)) (fun c i hc => by rw [wr_ne hc]; exact hf c i hc) (fun t h0 h1 => ?_) (fun i hi => ?_) (by omega) (by omega) hq
          · rw [wr_if]
            split
            · rename_i z
              have e : t = (j : Int) := by omega
              subst e
              (first | (rw [Zznar_01 (Or.inr rfl), if_pos ⟨by omega, by omega⟩]) | (rw [Zznar_01 (Or.inl rfl), if_neg (by omega)]))
            · rename_i z
              exact hd t h0 (by omega)
          · rw [wr_nej (by omega)]; exact ho i hi
set_option maxHeartbeats 2000000 in
theorem s_mark26 {d : Nat} {σ : Mem} {n : Nat} {Q : Pst} {H p : Int} (hG : GR σ) (hP : PV σ) (hH : 114 ≤ H) (hp : 0 ≤ p ∧ p ≤ 4) (hc : 0 ≤ σ H 0 ∧ σ H 0 ≤ 19) (k : ∀ τ, GR τ → (∀ c i, ¬ c = 13 → ¬ c = 30 → τ c i = σ c i) → (∀ t, 0 ≤ t → t ≤ 9 → τ 30 (p * 10 + t) = if abC σ H p t = true then 1 else 0) → (∀ i, ¬ (p * 10 ≤ i ∧ i < p * 10 + 10) → τ 30 i = σ 30 i) → Q none τ n) : EVM (d + 3) 74 [(19, 26), (0, p), (13, H), (16, 3), (15, 6)] σ n Q := by
  show EV (d + 3) 74 0 [(19, 26), (0, p), (13, H), (16, 3), (15, 6), (9, 0), (9, 0), (9, 0)] [] σ n Q
  refine r26_74_0  (k := ?_)
  refine s_has (fun c => ?_) (fun c => ?_)
  · dsimp only [Option.toList_some, List.cons_append, List.nil_append]
    refine r26_74_5  (ht := fun c => absurd c (by decide)) (hf := fun _ => ?_)
    refine r26_74_8 (h0 := (by first | decide | omega | (rw [show lnF 13 = 10 from by decide]; omega) | (rw [show lnF 30 = 50 from by decide]; simp (disch := omega) only [Zadd_eq, Zmul_eq]; omega))) (k := ?_)
    refine s_isBarred hG (fun c => ?_) (fun c => ?_)
    · dsimp only [Option.toList_some, List.cons_append, List.nil_append]
      refine r26_74_17  (ht := fun _ => ?_) (hf := fun c => absurd c (by decide))
      refine r26_74_24 (h0 := (by first | decide | omega | (rw [show lnF 13 = 10 from by decide]; omega) | (rw [show lnF 30 = 50 from by decide]; simp (disch := omega) only [Zadd_eq, Zmul_eq]; omega))) (k := ?_)
      refine s_gradesOf hG hP (fun σ1 hG1 hf1 h1 => ?_)
      dsimp only [Option.toList_some, Option.toList_none, List.cons_append, List.nil_append]
      refine r26_74_37  (k := ?_)
      refine l_mk26 (σ0 := σ1) (hH := hH) (hp := hp) (hmc := by decide) 11 0 σ1 hG1 (fun _ _ _ => rfl) (fun t a b => by omega) (fun _ _ => rfl) (by omega) (by omega) (fun τ g1 g2 g3 g4 => k τ g1 (fun c i a b => by rw [g2 c i b, hf1 c i a]) (fun t a b => ?_) (fun i a => by rw [g4 i a, hf1 _ _ (by decide)]))
      rw [g3 t a (by omega), hf1 H 4 (by omega), h1 t a b]
      split
      · rw [if_pos (abC_iff.mpr (by omega))]
      · rw [if_neg (fun z => by have := abC_iff.mp z; omega)]
    · dsimp only [Option.toList_some, List.cons_append, List.nil_append]
      refine r26_74_17  (ht := fun c => absurd c (by decide)) (hf := fun _ => ?_)
      refine r26_74_20 (h0 := (by first | decide | omega | (rw [show lnF 13 = 10 from by decide]; omega) | (rw [show lnF 30 = 50 from by decide]; simp (disch := omega) only [Zadd_eq, Zmul_eq]; omega))) (k := ?_)
      refine s_gradesOf hG hP (fun σ1 hG1 hf1 h1 => ?_)
      dsimp only [Option.toList_some, Option.toList_none, List.cons_append, List.nil_append]
      refine r26_74_37  (k := ?_)
      refine l_mk26 (σ0 := σ1) (hH := hH) (hp := hp) (hmc := by decide) 11 0 σ1 hG1 (fun _ _ _ => rfl) (fun t a b => by omega) (fun _ _ => rfl) (by omega) (by omega) (fun τ g1 g2 g3 g4 => k τ g1 (fun c i a b => by rw [g2 c i b, hf1 c i a]) (fun t a b => ?_) (fun i a => by rw [g4 i a, hf1 _ _ (by decide)]))
      rw [g3 t a (by omega), hf1 H 4 (by omega), h1 t a b]
      split
      · rw [if_pos (abC_iff.mpr (by omega))]
      · rw [if_neg (fun z => by have := abC_iff.mp z; omega)]
  · dsimp only [Option.toList_some, List.cons_append, List.nil_append]
    refine r26_74_5  (ht := fun _ => ?_) (hf := fun c => absurd c (by decide))
    refine r26_74_24 (h0 := (by first | decide | omega | (rw [show lnF 13 = 10 from by decide]; omega) | (rw [show lnF 30 = 50 from by decide]; simp (disch := omega) only [Zadd_eq, Zmul_eq]; omega))) (k := ?_)
    refine s_gradesOf hG hP (fun σ1 hG1 hf1 h1 => ?_)
    dsimp only [Option.toList_some, Option.toList_none, List.cons_append, List.nil_append]
    refine r26_74_37  (k := ?_)
    refine l_mk26 (σ0 := σ1) (hH := hH) (hp := hp) (hmc := by decide) 11 0 σ1 hG1 (fun _ _ _ => rfl) (fun t a b => by omega) (fun _ _ => rfl) (by omega) (by omega) (fun τ g1 g2 g3 g4 => k τ g1 (fun c i a b => by rw [g2 c i b, hf1 c i a]) (fun t a b => ?_) (fun i a => by rw [g4 i a, hf1 _ _ (by decide)]))
    rw [g3 t a (by omega), hf1 H 4 (by omega), h1 t a b]
    split
    · rw [if_pos (abC_iff.mpr (by omega))]
    · rw [if_neg (fun z => by have := abC_iff.mp z; omega)]
set_option maxHeartbeats 2000000 in
theorem l_find26 {d : Nat} {n : Nat} {Q : Pst} {σ0 : Mem} {H : Int} (hP : PV σ0) (hH : 114 ≤ H) (hc : 0 ≤ σ0 H 0 ∧ σ0 H 0 ≤ 19) : ∀ (k j : Nat) (σ : Mem), GR σ → (∀ c i, ¬ c = 13 → ¬ c = 30 → σ c i = σ0 c i) → (∀ p t, 0 ≤ p → p < (j : Int) → 0 ≤ t → t ≤ 9 → σ 30 (p * 10 + t) = if abC σ0 H p t = true then 1 else 0) → j ≤ 5 → 5 - j < k → (∀ τ l, GR τ → (∀ c i, ¬ c = 13 → ¬ c = 30 → τ c i = σ0 c i) → AB 26 τ (abC σ0 H) → EV (d + 4) 69 29 [(19, 26), (13, H), (16, 3), (15, 6), (0, l)] [] τ n Q) → EV (d + 4) 69 8 [(19, 26), (13, H), (16, 3), (15, 6), (0, (j : Int))] [] σ n Q := by
  intro k
  induction k with
  | zero => intros; exfalso; omega
  | succ k ih =>
    intro j σ hG hf hd hj hk hq
    have lo : ∀ c i, (c ≤ 12 ∨ 114 ≤ c) → σ c i = σ0 c i := fun c i h => hf c i (by omega) (by omega)
    refine r26_69_8 (ht := fun c => ?_) (hf := fun c => ?_)
    · exact hq σ _ hG hf (fun p t h1 h2 h3 h4 => hd p t h1 (by omega) h3 h4)
    · refine r26_69_14 (k := ?_)
      have e0 := hf H 0 (by omega) (by omega)
      refine s_mark26 hG (hP.fr lo) hH (by omega) (by rw [e0]; exact hc) (fun τ g1 g2 g3 g4 => ?_)
      dsimp only [Option.toList_none, List.nil_append]
      refine r26_69_23 (k := ?_)
      rw [Zadd_nat (by omega)]
      refine ih (j + 1) τ g1 (fun c i a b => by rw [g2 c i a b, hf c i a b]) (fun p t h1 h2 h3 h4 => ?_) (by omega) (by omega) hq
      by_cases e : p = (j : Int)
      · subst e
        rw [g3 t h3 h4, abC_fr hH lo]
      · rw [g4 _ (by omega)]
        exact hd p t h1 (by omega) h3 h4
theorem s_find26 {d : Nat} {σ : Mem} {n : Nat} {Q : Pst} {H : Int} (hG : GR σ) (hP : PV σ) (hH : 114 ≤ H) (hc : 0 ≤ σ H 0 ∧ σ H 0 ≤ 19) (ht : 0 ≤ σ H 3 ∧ σ H 3 ≤ 9) (k : ∀ τ, GR τ → (∀ c i, ¬ c = 13 → ¬ (c = 26 ∧ i = 4) → ¬ (27 ≤ c ∧ c ≤ 30) → τ c i = σ c i) → τ 26 4 = ((tmL (abC σ H) 5 (90 < σ H 1) (σ H 3)).length : Int) → TLs τ 27 0 (tmL (abC σ H) 5 (90 < σ H 1) (σ H 3)) → Q none τ n) : EVM (d + 4) 69 [(19, 26), (13, H), (16, 3), (15, 6)] σ n Q := by
  show EV (d + 4) 69 0 [(19, 26), (13, H), (16, 3), (15, 6), (9, 0)] [] σ n Q
  refine r26_69_0 (k := ?_)
  have lo : ∀ c i, (c ≤ 12 ∨ 114 ≤ c) → wrM σ 26 4 0 c i = σ c i := fun c i h => wr_ne (by omega)
  have eH : ∀ i, wrM σ 26 4 0 H i = σ H i := fun i => lo H i (by omega)
  refine l_find26 (σ0 := wrM σ 26 4 0) (hP.fr lo) hH (by rw [eH]; exact hc) 6 0 _ (GR.wr hG (by decide)) (fun _ _ _ _ => rfl) (fun p t a b => by omega) (by omega) (by omega) ?_
  intro τ l g1 g2 g3
  have ab : abC (wrM σ 26 4 0) H = abC σ H := funext fun p => funext fun t => abC_fr hH lo p t
  rw [ab] at g3
  have e1 : τ H 1 = σ H 1 := by rw [g2 H 1 (by omega) (by omega), eH]
  have e3 : τ H 3 = σ H 3 := by rw [g2 H 3 (by omega) (by omega), eH]
  have L0 : TmS 26 τ τ [] := ⟨fun _ _ _ _ => rfl, by rw [g2 26 4 (by decide) (by decide), wr_same]; rfl, fun i e he => by simp at he⟩
  have fin : ∀ τ2 l2, TmS 26 τ τ2 l2 → l2 = tmL (abC σ H) 5 (90 < σ H 1) (σ H 3) → Q none τ2 n := fun τ2 l2 hL e => by
    subst e
    refine k τ2 (hL.GR26 g1) (fun c i q1 q2 q3 => ?_) hL.2.1 hL.2.2
    rw [hL.1 c i q2 (by omega), g2 c i q1 (by omega), wr_if, if_neg q2]
  refine r26_69_29 (h0 := by omega) (k := ?_)
  refine s_isLong (by omega) (fun c => ?_) (fun c => ?_)
  · dsimp only [Option.toList_some, List.cons_append, List.nil_append]
    refine r26_69_33 (ht := fun c => absurd c (by decide)) (hf := fun _ => ?_)
    refine r26_69_36 (h0 := by omega) (k := ?_)
    rw [e3]
    refine s_addPairs26 g1 g3 ht L0 (fun τ2 hL => ?_)
    dsimp only [Option.toList_none, List.nil_append]
    refine r26_69_44 (k := ?_)
    refine fin τ2 _ hL ?_
    unfold tmL
    rw [if_pos (by omega)]
  · dsimp only [Option.toList_some, List.cons_append, List.nil_append]
    refine r26_69_33 (ht := fun _ => ?_) (hf := fun c => absurd c (by decide))
    refine r26_69_45 (h0 := by omega) (k := ?_)
    rw [e3]
    refine s_addSingles26 g1 g3 ht L0 (fun τ2 hL => ?_)
    dsimp only [Option.toList_none, List.nil_append]
    have es := hL.2.1
    refine r26_69_53 (ht := fun c2 => ?_) (hf := fun c2 => ?_)
    · refine r26_69_68 (k := ?_)
      refine fin τ2 _ hL ?_
      unfold tmL
      rw [if_neg (by omega), if_neg (by omega)]
    · refine r26_69_60 (h0 := by omega) (k := ?_)
      rw [hL.1 H 3 (by omega) (by omega), e3]
      have hl0 : sgN (abC σ H) (σ H 3) 5 = [] := List.eq_nil_of_length_eq_zero (by omega)
      rw [hl0] at hL
      refine s_addRelays26 g1 g3 ht hL (fun τ3 hL3 => ?_)
      dsimp only [Option.toList_none, List.nil_append]
      refine r26_69_68 (k := ?_)
      refine fin τ3 _ hL3 ?_
      unfold tmL
      rw [if_neg (by omega), if_pos (by rw [hl0]; rfl)]
set_option maxHeartbeats 2000000 in
theorem l_mk31 {d : Nat} {n : Nat} {Q : Pst} {σ0 : Mem} {H p mc : Int} {hH : 114 ≤ H} {hp : 0 ≤ p ∧ p ≤ 4} {hmc : mc = 0 ∨ mc = 1} : ∀ (k : Nat) (j : Nat) (σ : Mem), (GR σ) → (∀ c i, ¬ c = 35 → σ c i = σ0 c i) → (∀ t, 0 ≤ t → t < (j : Int) → σ 35 (p * 10 + t) = if mc = 1 ∧ σ0 H 4 ≤ σ0 13 t then 1 else 0) → (∀ i, ¬ (p * 10 ≤ i ∧ i < p * 10 + 10) → σ 35 i = σ0 35 i) → (j ≤ 10) → (10 - j < k) → (∀ τ, GR τ → (∀ c i, ¬ c = 35 → τ c i = σ0 c i) → (∀ t, 0 ≤ t → t < 10 → τ 35 (p * 10 + t) = if mc = 1 ∧ σ0 H 4 ≤ σ0 13 t then 1 else 0) → (∀ i, ¬ (p * 10 ≤ i ∧ i < p * 10 + 10) → τ 35 i = σ0 35 i) → Q none τ n) → EV d 74 42 [(19, 31), (0, p), (13, H), (16, 3), (15, 6), (0, mc), (50, 13), (0, (j : Int))] [] σ n Q := by
  intro k
  induction k with
  | zero => intros; exfalso; omega
  | succ k ih =>
    intro j σ hG hf hd ho hj hk hq
    have e13 := hf 13 j (by decide)
    have eH := hf H 4 (by omega)
    refine r31_74_42  (ht := fun c => ?_) (hf := fun c => ?_)
    · skip
      refine r31_74_89  (k := ?_)
      exact hq σ hG hf (fun t h0 h1 => hd t h0 (by omega)) ho
    · skip
      refine r31_74_49 (hG := hG) (ht := fun c => ?_) (hf := fun c => ?_)
      · skip
        refine r31_74_81 (h0 := (by first | decide | omega | (rw [show lnF 13 = 10 from by decide]; omega) | (rw [show lnF 35 = 50 from by decide]; simp (disch := omega) only [Zadd_eq, Zmul_eq]; omega))) (h1 := (by first | decide | omega | (rw [show lnF 13 = 10 from by decide]; omega) | (rw [show lnF 35 = 50 from by decide]; simp (disch := omega) only [Zadd_eq, Zmul_eq]; omega))) (k := ?_)
        rw [Zadd_nat (by omega), show Zadd (Zmul p 10) (j : Int) = p * 10 + j by (simp (disch := omega) only [Zadd_eq, Zmul_eq])]
        refine ih (j + 1) _ (GR.wrk hG (by decide)) (fun c i hc => by rw [wr_ne hc]; exact hf c i hc) (fun t h0 h1 => ?_) (fun i hi => ?_) (by omega) (by omega) hq
        · rw [wr_if]
          split
          · rename_i z
            have e : t = (j : Int) := by omega
            subst e
            (first | (rw [Zznar_01 (Or.inr rfl), if_pos ⟨by omega, by omega⟩]) | (rw [Zznar_01 (Or.inl rfl), if_neg (by omega)]))
          · rename_i z
            exact hd t h0 (by omega)
        · rw [wr_nej (by omega)]; exact ho i hi
      · skip
        refine r31_74_65 (h0 := (by first | decide | omega | (rw [show lnF 13 = 10 from by decide]; omega) | (rw [show lnF 35 = 50 from by decide]; simp (disch := omega) only [Zadd_eq, Zmul_eq]; omega))) (h1 := (by first | decide | omega | (rw [show lnF 13 = 10 from by decide]; omega) | (rw [show lnF 35 = 50 from by decide]; simp (disch := omega) only [Zadd_eq, Zmul_eq]; omega))) (h2 := (by first | decide | omega | (rw [show lnF 13 = 10 from by decide]; omega) | (rw [show lnF 35 = 50 from by decide]; simp (disch := omega) only [Zadd_eq, Zmul_eq]; omega))) (ht := fun c => ?_) (hf := fun c => ?_)
        · skip
          refine r31_74_81 (h0 := (by first | decide | omega | (rw [show lnF 13 = 10 from by decide]; omega) | (rw [show lnF 35 = 50 from by decide]; simp (disch := omega) only [Zadd_eq, Zmul_eq]; omega))) (h1 := (by first | decide | omega | (rw [show lnF 13 = 10 from by decide]; omega) | (rw [show lnF 35 = 50 from by decide]; simp (disch := omega) only [Zadd_eq, Zmul_eq]; omega))) (k := ?_)
          rw [Zadd_nat (by omega), show Zadd (Zmul p 10) (j : Int) = p * 10 + j by (simp (disch := omega) only [Zadd_eq, Zmul_eq])]
          refine ih (j + 1) _ (GR.wrk hG (by decide)) (fun c i hc => by rw [wr_ne hc]; exact hf c i hc) (fun t h0 h1 => ?_) (fun i hi => ?_) (by omega) (by omega) hq
          · rw [wr_if]
            split
            · rename_i z
              have e : t = (j : Int) := by omega
              subst e
              (first | (rw [Zznar_01 (Or.inr rfl), if_pos ⟨by omega, by omega⟩]) | (rw [Zznar_01 (Or.inl rfl), if_neg (by omega)]))
            · rename_i z
              exact hd t h0 (by omega)
          · rw [wr_nej (by omega)]; exact ho i hi
        · skip
          refine r31_74_77 (h0 := (by first | decide | omega | (rw [show lnF 13 = 10 from by decide]; omega) | (rw [show lnF 35 = 50 from by decide]; simp (disch := omega) only [Zadd_eq, Zmul_eq]; omega))) (h1 := (by first | decide | omega | (rw [show lnF 13 = 10 from by decide]; omega) | (rw [show lnF 35 = 50 from by decide]; simp (disch := omega) only [Zadd_eq, Zmul_eq]; omega))) (k := ?_)
          rw [Zadd_nat (by omega), show Zadd (Zmul p 10) (j : Int) = p * 10 + j by (simp (disch := omega) only [Zadd_eq, Zmul_eq])]
          refine ih (j + 1) _ (GR.wrk hG (by decide)) (fun c i hc => by rw [wr_ne hc]; exact hf c i hc) (fun t h0 h1 => ?_) (fun i hi => ?_) (by omega) (by omega) hq
          · rw [wr_if]
            split
            · rename_i z
              have e : t = (j : Int) := by omega
              subst e
              (first | (rw [Zznar_01 (Or.inr rfl), if_pos ⟨by omega, by omega⟩]) | (rw [Zznar_01 (Or.inl rfl), if_neg (by omega)]))
            · rename_i z
              exact hd t h0 (by omega)
          · rw [wr_nej (by omega)]; exact ho i hi
set_option maxHeartbeats 2000000 in
theorem s_mark31 {d : Nat} {σ : Mem} {n : Nat} {Q : Pst} {H p : Int} (hG : GR σ) (hP : PV σ) (hH : 114 ≤ H) (hp : 0 ≤ p ∧ p ≤ 4) (hc : 0 ≤ σ H 0 ∧ σ H 0 ≤ 19) (k : ∀ τ, GR τ → (∀ c i, ¬ c = 13 → ¬ c = 35 → τ c i = σ c i) → (∀ t, 0 ≤ t → t ≤ 9 → τ 35 (p * 10 + t) = if abC σ H p t = true then 1 else 0) → (∀ i, ¬ (p * 10 ≤ i ∧ i < p * 10 + 10) → τ 35 i = σ 35 i) → Q none τ n) : EVM (d + 3) 74 [(19, 31), (0, p), (13, H), (16, 3), (15, 6)] σ n Q := by
  show EV (d + 3) 74 0 [(19, 31), (0, p), (13, H), (16, 3), (15, 6), (9, 0), (9, 0), (9, 0)] [] σ n Q
  refine r31_74_0  (k := ?_)
  refine s_has (fun c => ?_) (fun c => ?_)
  · dsimp only [Option.toList_some, List.cons_append, List.nil_append]
    refine r31_74_5  (ht := fun c => absurd c (by decide)) (hf := fun _ => ?_)
    refine r31_74_8 (h0 := (by first | decide | omega | (rw [show lnF 13 = 10 from by decide]; omega) | (rw [show lnF 35 = 50 from by decide]; simp (disch := omega) only [Zadd_eq, Zmul_eq]; omega))) (k := ?_)
    refine s_isBarred hG (fun c => ?_) (fun c => ?_)
    · dsimp only [Option.toList_some, List.cons_append, List.nil_append]
      refine r31_74_17  (ht := fun _ => ?_) (hf := fun c => absurd c (by decide))
      refine r31_74_24 (h0 := (by first | decide | omega | (rw [show lnF 13 = 10 from by decide]; omega) | (rw [show lnF 35 = 50 from by decide]; simp (disch := omega) only [Zadd_eq, Zmul_eq]; omega))) (k := ?_)
      refine s_gradesOf hG hP (fun σ1 hG1 hf1 h1 => ?_)
      dsimp only [Option.toList_some, Option.toList_none, List.cons_append, List.nil_append]
      refine r31_74_37  (k := ?_)
      refine l_mk31 (σ0 := σ1) (hH := hH) (hp := hp) (hmc := by decide) 11 0 σ1 hG1 (fun _ _ _ => rfl) (fun t a b => by omega) (fun _ _ => rfl) (by omega) (by omega) (fun τ g1 g2 g3 g4 => k τ g1 (fun c i a b => by rw [g2 c i b, hf1 c i a]) (fun t a b => ?_) (fun i a => by rw [g4 i a, hf1 _ _ (by decide)]))
      rw [g3 t a (by omega), hf1 H 4 (by omega), h1 t a b]
      split
      · rw [if_pos (abC_iff.mpr (by omega))]
      · rw [if_neg (fun z => by have := abC_iff.mp z; omega)]
    · dsimp only [Option.toList_some, List.cons_append, List.nil_append]
      refine r31_74_17  (ht := fun c => absurd c (by decide)) (hf := fun _ => ?_)
      refine r31_74_20 (h0 := (by first | decide | omega | (rw [show lnF 13 = 10 from by decide]; omega) | (rw [show lnF 35 = 50 from by decide]; simp (disch := omega) only [Zadd_eq, Zmul_eq]; omega))) (k := ?_)
      refine s_gradesOf hG hP (fun σ1 hG1 hf1 h1 => ?_)
      dsimp only [Option.toList_some, Option.toList_none, List.cons_append, List.nil_append]
      refine r31_74_37  (k := ?_)
      refine l_mk31 (σ0 := σ1) (hH := hH) (hp := hp) (hmc := by decide) 11 0 σ1 hG1 (fun _ _ _ => rfl) (fun t a b => by omega) (fun _ _ => rfl) (by omega) (by omega) (fun τ g1 g2 g3 g4 => k τ g1 (fun c i a b => by rw [g2 c i b, hf1 c i a]) (fun t a b => ?_) (fun i a => by rw [g4 i a, hf1 _ _ (by decide)]))
      rw [g3 t a (by omega), hf1 H 4 (by omega), h1 t a b]
      split
      · rw [if_pos (abC_iff.mpr (by omega))]
      · rw [if_neg (fun z => by have := abC_iff.mp z; omega)]
  · dsimp only [Option.toList_some, List.cons_append, List.nil_append]
    refine r31_74_5  (ht := fun _ => ?_) (hf := fun c => absurd c (by decide))
    refine r31_74_24 (h0 := (by first | decide | omega | (rw [show lnF 13 = 10 from by decide]; omega) | (rw [show lnF 35 = 50 from by decide]; simp (disch := omega) only [Zadd_eq, Zmul_eq]; omega))) (k := ?_)
    refine s_gradesOf hG hP (fun σ1 hG1 hf1 h1 => ?_)
    dsimp only [Option.toList_some, Option.toList_none, List.cons_append, List.nil_append]
    refine r31_74_37  (k := ?_)
    refine l_mk31 (σ0 := σ1) (hH := hH) (hp := hp) (hmc := by decide) 11 0 σ1 hG1 (fun _ _ _ => rfl) (fun t a b => by omega) (fun _ _ => rfl) (by omega) (by omega) (fun τ g1 g2 g3 g4 => k τ g1 (fun c i a b => by rw [g2 c i b, hf1 c i a]) (fun t a b => ?_) (fun i a => by rw [g4 i a, hf1 _ _ (by decide)]))
    rw [g3 t a (by omega), hf1 H 4 (by omega), h1 t a b]
    split
    · rw [if_pos (abC_iff.mpr (by omega))]
    · rw [if_neg (fun z => by have := abC_iff.mp z; omega)]
set_option maxHeartbeats 2000000 in
theorem l_find31 {d : Nat} {n : Nat} {Q : Pst} {σ0 : Mem} {H : Int} (hP : PV σ0) (hH : 114 ≤ H) (hc : 0 ≤ σ0 H 0 ∧ σ0 H 0 ≤ 19) : ∀ (k j : Nat) (σ : Mem), GR σ → (∀ c i, ¬ c = 13 → ¬ c = 35 → σ c i = σ0 c i) → (∀ p t, 0 ≤ p → p < (j : Int) → 0 ≤ t → t ≤ 9 → σ 35 (p * 10 + t) = if abC σ0 H p t = true then 1 else 0) → j ≤ 5 → 5 - j < k → (∀ τ l, GR τ → (∀ c i, ¬ c = 13 → ¬ c = 35 → τ c i = σ0 c i) → AB 31 τ (abC σ0 H) → EV (d + 4) 69 29 [(19, 31), (13, H), (16, 3), (15, 6), (0, l)] [] τ n Q) → EV (d + 4) 69 8 [(19, 31), (13, H), (16, 3), (15, 6), (0, (j : Int))] [] σ n Q := by
  intro k
  induction k with
  | zero => intros; exfalso; omega
  | succ k ih =>
    intro j σ hG hf hd hj hk hq
    have lo : ∀ c i, (c ≤ 12 ∨ 114 ≤ c) → σ c i = σ0 c i := fun c i h => hf c i (by omega) (by omega)
    refine r31_69_8 (ht := fun c => ?_) (hf := fun c => ?_)
    · exact hq σ _ hG hf (fun p t h1 h2 h3 h4 => hd p t h1 (by omega) h3 h4)
    · refine r31_69_14 (k := ?_)
      have e0 := hf H 0 (by omega) (by omega)
      refine s_mark31 hG (hP.fr lo) hH (by omega) (by rw [e0]; exact hc) (fun τ g1 g2 g3 g4 => ?_)
      dsimp only [Option.toList_none, List.nil_append]
      refine r31_69_23 (k := ?_)
      rw [Zadd_nat (by omega)]
      refine ih (j + 1) τ g1 (fun c i a b => by rw [g2 c i a b, hf c i a b]) (fun p t h1 h2 h3 h4 => ?_) (by omega) (by omega) hq
      by_cases e : p = (j : Int)
      · subst e
        rw [g3 t h3 h4, abC_fr hH lo]
      · rw [g4 _ (by omega)]
        exact hd p t h1 (by omega) h3 h4
theorem s_find31 {d : Nat} {σ : Mem} {n : Nat} {Q : Pst} {H : Int} (hG : GR σ) (hP : PV σ) (hH : 114 ≤ H) (hc : 0 ≤ σ H 0 ∧ σ H 0 ≤ 19) (ht : 0 ≤ σ H 3 ∧ σ H 3 ≤ 9) (k : ∀ τ, GR τ → (∀ c i, ¬ c = 13 → ¬ (c = 31 ∧ i = 4) → ¬ (32 ≤ c ∧ c ≤ 35) → τ c i = σ c i) → τ 31 4 = ((tmL (abC σ H) 5 (90 < σ H 1) (σ H 3)).length : Int) → TLs τ 32 0 (tmL (abC σ H) 5 (90 < σ H 1) (σ H 3)) → Q none τ n) : EVM (d + 4) 69 [(19, 31), (13, H), (16, 3), (15, 6)] σ n Q := by
  show EV (d + 4) 69 0 [(19, 31), (13, H), (16, 3), (15, 6), (9, 0)] [] σ n Q
  refine r31_69_0 (k := ?_)
  have lo : ∀ c i, (c ≤ 12 ∨ 114 ≤ c) → wrM σ 31 4 0 c i = σ c i := fun c i h => wr_ne (by omega)
  have eH : ∀ i, wrM σ 31 4 0 H i = σ H i := fun i => lo H i (by omega)
  refine l_find31 (σ0 := wrM σ 31 4 0) (hP.fr lo) hH (by rw [eH]; exact hc) 6 0 _ (GR.wr hG (by decide)) (fun _ _ _ _ => rfl) (fun p t a b => by omega) (by omega) (by omega) ?_
  intro τ l g1 g2 g3
  have ab : abC (wrM σ 31 4 0) H = abC σ H := funext fun p => funext fun t => abC_fr hH lo p t
  rw [ab] at g3
  have e1 : τ H 1 = σ H 1 := by rw [g2 H 1 (by omega) (by omega), eH]
  have e3 : τ H 3 = σ H 3 := by rw [g2 H 3 (by omega) (by omega), eH]
  have L0 : TmS 31 τ τ [] := ⟨fun _ _ _ _ => rfl, by rw [g2 31 4 (by decide) (by decide), wr_same]; rfl, fun i e he => by simp at he⟩
  have fin : ∀ τ2 l2, TmS 31 τ τ2 l2 → l2 = tmL (abC σ H) 5 (90 < σ H 1) (σ H 3) → Q none τ2 n := fun τ2 l2 hL e => by
    subst e
    refine k τ2 (hL.GR31 g1) (fun c i q1 q2 q3 => ?_) hL.2.1 hL.2.2
    rw [hL.1 c i q2 (by omega), g2 c i q1 (by omega), wr_if, if_neg q2]
  refine r31_69_29 (h0 := by omega) (k := ?_)
  refine s_isLong (by omega) (fun c => ?_) (fun c => ?_)
  · dsimp only [Option.toList_some, List.cons_append, List.nil_append]
    refine r31_69_33 (ht := fun c => absurd c (by decide)) (hf := fun _ => ?_)
    refine r31_69_36 (h0 := by omega) (k := ?_)
    rw [e3]
    refine s_addPairs31 g1 g3 ht L0 (fun τ2 hL => ?_)
    dsimp only [Option.toList_none, List.nil_append]
    refine r31_69_44 (k := ?_)
    refine fin τ2 _ hL ?_
    unfold tmL
    rw [if_pos (by omega)]
  · dsimp only [Option.toList_some, List.cons_append, List.nil_append]
    refine r31_69_33 (ht := fun _ => ?_) (hf := fun c => absurd c (by decide))
    refine r31_69_45 (h0 := by omega) (k := ?_)
    rw [e3]
    refine s_addSingles31 g1 g3 ht L0 (fun τ2 hL => ?_)
    dsimp only [Option.toList_none, List.nil_append]
    have es := hL.2.1
    refine r31_69_53 (ht := fun c2 => ?_) (hf := fun c2 => ?_)
    · refine r31_69_68 (k := ?_)
      refine fin τ2 _ hL ?_
      unfold tmL
      rw [if_neg (by omega), if_neg (by omega)]
    · refine r31_69_60 (h0 := by omega) (k := ?_)
      rw [hL.1 H 3 (by omega) (by omega), e3]
      have hl0 : sgN (abC σ H) (σ H 3) 5 = [] := List.eq_nil_of_length_eq_zero (by omega)
      rw [hl0] at hL
      refine s_addRelays31 g1 g3 ht hL (fun τ3 hL3 => ?_)
      dsimp only [Option.toList_none, List.nil_append]
      refine r31_69_68 (k := ?_)
      refine fin τ3 _ hL3 ?_
      unfold tmL
      rw [if_neg (by omega), if_pos (by rw [hl0]; rfl)]
set_option maxHeartbeats 2000000 in
theorem l_mk36 {d : Nat} {n : Nat} {Q : Pst} {σ0 : Mem} {H p mc : Int} {hH : 114 ≤ H} {hp : 0 ≤ p ∧ p ≤ 4} {hmc : mc = 0 ∨ mc = 1} : ∀ (k : Nat) (j : Nat) (σ : Mem), (GR σ) → (∀ c i, ¬ c = 40 → σ c i = σ0 c i) → (∀ t, 0 ≤ t → t < (j : Int) → σ 40 (p * 10 + t) = if mc = 1 ∧ σ0 H 4 ≤ σ0 13 t then 1 else 0) → (∀ i, ¬ (p * 10 ≤ i ∧ i < p * 10 + 10) → σ 40 i = σ0 40 i) → (j ≤ 10) → (10 - j < k) → (∀ τ, GR τ → (∀ c i, ¬ c = 40 → τ c i = σ0 c i) → (∀ t, 0 ≤ t → t < 10 → τ 40 (p * 10 + t) = if mc = 1 ∧ σ0 H 4 ≤ σ0 13 t then 1 else 0) → (∀ i, ¬ (p * 10 ≤ i ∧ i < p * 10 + 10) → τ 40 i = σ0 40 i) → Q none τ n) → EV d 74 42 [(19, 36), (0, p), (13, H), (16, 3), (15, 6), (0, mc), (50, 13), (0, (j : Int))] [] σ n Q := by
  intro k
  induction k with
  | zero => intros; exfalso; omega
  | succ k ih =>
    intro j σ hG hf hd ho hj hk hq
    have e13 := hf 13 j (by decide)
    have eH := hf H 4 (by omega)
    refine r36_74_42  (ht := fun c => ?_) (hf := fun c => ?_)
    · skip
      refine r36_74_89  (k := ?_)
      exact hq σ hG hf (fun t h0 h1 => hd t h0 (by omega)) ho
    · skip
      refine r36_74_49 (hG := hG) (ht := fun c => ?_) (hf := fun c => ?_)
      · skip
        refine r36_74_81 (h0 := (by first | decide | omega | (rw [show lnF 13 = 10 from by decide]; omega) | (rw [show lnF 40 = 50 from by decide]; simp (disch := omega) only [Zadd_eq, Zmul_eq]; omega))) (h1 := (by first | decide | omega | (rw [show lnF 13 = 10 from by decide]; omega) | (rw [show lnF 40 = 50 from by decide]; simp (disch := omega) only [Zadd_eq, Zmul_eq]; omega))) (k := ?_)
        rw [Zadd_nat (by omega), show Zadd (Zmul p 10) (j : Int) = p * 10 + j by (simp (disch := omega) only [Zadd_eq, Zmul_eq])]
        refine ih (j + 1) _ (GR.wrk hG (by decide)) (fun c i hc => by rw [wr_ne hc]; exact hf c i hc) (fun t h0 h1 => ?_) (fun i hi => ?_) (by omega) (by omega) hq
        · rw [wr_if]
          split
          · rename_i z
            have e : t = (j : Int) := by omega
            subst e
            (first | (rw [Zznar_01 (Or.inr rfl), if_pos ⟨by omega, by omega⟩]) | (rw [Zznar_01 (Or.inl rfl), if_neg (by omega)]))
          · rename_i z
            exact hd t h0 (by omega)
        · rw [wr_nej (by omega)]; exact ho i hi
      · skip
        refine r36_74_65 (h0 := (by first | decide | omega | (rw [show lnF 13 = 10 from by decide]; omega) | (rw [show lnF 40 = 50 from by decide]; simp (disch := omega) only [Zadd_eq, Zmul_eq]; omega))) (h1 := (by first | decide | omega | (rw [show lnF 13 = 10 from by decide]; omega) | (rw [show lnF 40 = 50 from by decide]; simp (disch := omega) only [Zadd_eq, Zmul_eq]; omega))) (h2 := (by first | decide | omega | (rw [show lnF 13 = 10 from by decide]; omega) | (rw [show lnF 40 = 50 from by decide]; simp (disch := omega) only [Zadd_eq, Zmul_eq]; omega))) (ht := fun c => ?_) (hf := fun c => ?_)
        · skip
          refine r36_74_81 (h0 := (by first | decide | omega | (rw [show lnF 13 = 10 from by decide]; omega) | (rw [show lnF 40 = 50 from by decide]; simp (disch := omega) only [Zadd_eq, Zmul_eq]; omega))) (h1 := (by first | decide | omega | (rw [show lnF 13 = 10 from by decide]; omega) | (rw [show lnF 40 = 50 from by decide]; simp (disch := omega) only [Zadd_eq, Zmul_eq]; omega))) (k := ?_)
          rw [Zadd_nat (by omega), show Zadd (Zmul p 10) (j : Int) = p * 10 + j by (simp (disch := omega) only [Zadd_eq, Zmul_eq])]
          refine ih (j + 1) _ (GR.wrk hG (by decide)) (fun c i hc => by rw [wr_ne hc]; exact hf c i hc) (fun t h0 h1 => ?_) (fun i hi => ?_) (by omega) (by omega) hq
          · rw [wr_if]
            split
            · rename_i z
              have e : t = (j : Int) := by omega
              subst e
              (first | (rw [Zznar_01 (Or.inr rfl), if_pos ⟨by omega, by omega⟩]) | (rw [Zznar_01 (Or.inl rfl), if_neg (by omega)]))
            · rename_i z
              exact hd t h0 (by omega)
          · rw [wr_nej (by omega)]; exact ho i hi
        · skip
          refine r36_74_77 (h0 := (by first | decide | omega | (rw [show lnF 13 = 10 from by decide]; omega) | (rw [show lnF 40 = 50 from by decide]; simp (disch := omega) only [Zadd_eq, Zmul_eq]; omega))) (h1 := (by first | decide | omega | (rw [show lnF 13 = 10 from by decide]; omega) | (rw [show lnF 40 = 50 from by decide]; simp (disch := omega) only [Zadd_eq, Zmul_eq]; omega))) (k := ?_)
          rw [Zadd_nat (by omega), show Zadd (Zmul p 10) (j : Int) = p * 10 + j by (simp (disch := omega) only [Zadd_eq, Zmul_eq])]
          refine ih (j + 1) _ (GR.wrk hG (by decide)) (fun c i hc => by rw [wr_ne hc]; exact hf c i hc) (fun t h0 h1 => ?_) (fun i hi => ?_) (by omega) (by omega) hq
          · rw [wr_if]
            split
            · rename_i z
              have e : t = (j : Int) := by omega
              subst e
              (first | (rw [Zznar_01 (Or.inr rfl), if_pos ⟨by omega, by omega⟩]) | (rw [Zznar_01 (Or.inl rfl), if_neg (by omega)]))
            · rename_i z
              exact hd t h0 (by omega)
          · rw [wr_nej (by omega)]; exact ho i hi
set_option maxHeartbeats 2000000 in
theorem s_mark36 {d : Nat} {σ : Mem} {n : Nat} {Q : Pst} {H p : Int} (hG : GR σ) (hP : PV σ) (hH : 114 ≤ H) (hp : 0 ≤ p ∧ p ≤ 4) (hc : 0 ≤ σ H 0 ∧ σ H 0 ≤ 19) (k : ∀ τ, GR τ → (∀ c i, ¬ c = 13 → ¬ c = 40 → τ c i = σ c i) → (∀ t, 0 ≤ t → t ≤ 9 → τ 40 (p * 10 + t) = if abC σ H p t = true then 1 else 0) → (∀ i, ¬ (p * 10 ≤ i ∧ i < p * 10 + 10) → τ 40 i = σ 40 i) → Q none τ n) : EVM (d + 3) 74 [(19, 36), (0, p), (13, H), (16, 3), (15, 6)] σ n Q := by
  show EV (d + 3) 74 0 [(19, 36), (0, p), (13, H), (16, 3), (15, 6), (9, 0), (9, 0), (9, 0)] [] σ n Q
  refine r36_74_0  (k := ?_)
  refine s_has (fun c => ?_) (fun c => ?_)
  · dsimp only [Option.toList_some, List.cons_append, List.nil_append]
    refine r36_74_5  (ht := fun c => absurd c (by decide)) (hf := fun _ => ?_)
    refine r36_74_8 (h0 := (by first | decide | omega | (rw [show lnF 13 = 10 from by decide]; omega) | (rw [show lnF 40 = 50 from by decide]; simp (disch := omega) only [Zadd_eq, Zmul_eq]; omega))) (k := ?_)
    refine s_isBarred hG (fun c => ?_) (fun c => ?_)
    · dsimp only [Option.toList_some, List.cons_append, List.nil_append]
      refine r36_74_17  (ht := fun _ => ?_) (hf := fun c => absurd c (by decide))
      refine r36_74_24 (h0 := (by first | decide | omega | (rw [show lnF 13 = 10 from by decide]; omega) | (rw [show lnF 40 = 50 from by decide]; simp (disch := omega) only [Zadd_eq, Zmul_eq]; omega))) (k := ?_)
      refine s_gradesOf hG hP (fun σ1 hG1 hf1 h1 => ?_)
      dsimp only [Option.toList_some, Option.toList_none, List.cons_append, List.nil_append]
      refine r36_74_37  (k := ?_)
      refine l_mk36 (σ0 := σ1) (hH := hH) (hp := hp) (hmc := by decide) 11 0 σ1 hG1 (fun _ _ _ => rfl) (fun t a b => by omega) (fun _ _ => rfl) (by omega) (by omega) (fun τ g1 g2 g3 g4 => k τ g1 (fun c i a b => by rw [g2 c i b, hf1 c i a]) (fun t a b => ?_) (fun i a => by rw [g4 i a, hf1 _ _ (by decide)]))
      rw [g3 t a (by omega), hf1 H 4 (by omega), h1 t a b]
      split
      · rw [if_pos (abC_iff.mpr (by omega))]
      · rw [if_neg (fun z => by have := abC_iff.mp z; omega)]
    · dsimp only [Option.toList_some, List.cons_append, List.nil_append]
      refine r36_74_17  (ht := fun c => absurd c (by decide)) (hf := fun _ => ?_)
      refine r36_74_20 (h0 := (by first | decide | omega | (rw [show lnF 13 = 10 from by decide]; omega) | (rw [show lnF 40 = 50 from by decide]; simp (disch := omega) only [Zadd_eq, Zmul_eq]; omega))) (k := ?_)
      refine s_gradesOf hG hP (fun σ1 hG1 hf1 h1 => ?_)
      dsimp only [Option.toList_some, Option.toList_none, List.cons_append, List.nil_append]
      refine r36_74_37  (k := ?_)
      refine l_mk36 (σ0 := σ1) (hH := hH) (hp := hp) (hmc := by decide) 11 0 σ1 hG1 (fun _ _ _ => rfl) (fun t a b => by omega) (fun _ _ => rfl) (by omega) (by omega) (fun τ g1 g2 g3 g4 => k τ g1 (fun c i a b => by rw [g2 c i b, hf1 c i a]) (fun t a b => ?_) (fun i a => by rw [g4 i a, hf1 _ _ (by decide)]))
      rw [g3 t a (by omega), hf1 H 4 (by omega), h1 t a b]
      split
      · rw [if_pos (abC_iff.mpr (by omega))]
      · rw [if_neg (fun z => by have := abC_iff.mp z; omega)]
  · dsimp only [Option.toList_some, List.cons_append, List.nil_append]
    refine r36_74_5  (ht := fun _ => ?_) (hf := fun c => absurd c (by decide))
    refine r36_74_24 (h0 := (by first | decide | omega | (rw [show lnF 13 = 10 from by decide]; omega) | (rw [show lnF 40 = 50 from by decide]; simp (disch := omega) only [Zadd_eq, Zmul_eq]; omega))) (k := ?_)
    refine s_gradesOf hG hP (fun σ1 hG1 hf1 h1 => ?_)
    dsimp only [Option.toList_some, Option.toList_none, List.cons_append, List.nil_append]
    refine r36_74_37  (k := ?_)
    refine l_mk36 (σ0 := σ1) (hH := hH) (hp := hp) (hmc := by decide) 11 0 σ1 hG1 (fun _ _ _ => rfl) (fun t a b => by omega) (fun _ _ => rfl) (by omega) (by omega) (fun τ g1 g2 g3 g4 => k τ g1 (fun c i a b => by rw [g2 c i b, hf1 c i a]) (fun t a b => ?_) (fun i a => by rw [g4 i a, hf1 _ _ (by decide)]))
    rw [g3 t a (by omega), hf1 H 4 (by omega), h1 t a b]
    split
    · rw [if_pos (abC_iff.mpr (by omega))]
    · rw [if_neg (fun z => by have := abC_iff.mp z; omega)]
set_option maxHeartbeats 2000000 in
theorem l_find36 {d : Nat} {n : Nat} {Q : Pst} {σ0 : Mem} {H : Int} (hP : PV σ0) (hH : 114 ≤ H) (hc : 0 ≤ σ0 H 0 ∧ σ0 H 0 ≤ 19) : ∀ (k j : Nat) (σ : Mem), GR σ → (∀ c i, ¬ c = 13 → ¬ c = 40 → σ c i = σ0 c i) → (∀ p t, 0 ≤ p → p < (j : Int) → 0 ≤ t → t ≤ 9 → σ 40 (p * 10 + t) = if abC σ0 H p t = true then 1 else 0) → j ≤ 5 → 5 - j < k → (∀ τ l, GR τ → (∀ c i, ¬ c = 13 → ¬ c = 40 → τ c i = σ0 c i) → AB 36 τ (abC σ0 H) → EV (d + 4) 69 29 [(19, 36), (13, H), (16, 3), (15, 6), (0, l)] [] τ n Q) → EV (d + 4) 69 8 [(19, 36), (13, H), (16, 3), (15, 6), (0, (j : Int))] [] σ n Q := by
  intro k
  induction k with
  | zero => intros; exfalso; omega
  | succ k ih =>
    intro j σ hG hf hd hj hk hq
    have lo : ∀ c i, (c ≤ 12 ∨ 114 ≤ c) → σ c i = σ0 c i := fun c i h => hf c i (by omega) (by omega)
    refine r36_69_8 (ht := fun c => ?_) (hf := fun c => ?_)
    · exact hq σ _ hG hf (fun p t h1 h2 h3 h4 => hd p t h1 (by omega) h3 h4)
    · refine r36_69_14 (k := ?_)
      have e0 := hf H 0 (by omega) (by omega)
      refine s_mark36 hG (hP.fr lo) hH (by omega) (by rw [e0]; exact hc) (fun τ g1 g2 g3 g4 => ?_)
      dsimp only [Option.toList_none, List.nil_append]
      refine r36_69_23 (k := ?_)
      rw [Zadd_nat (by omega)]
      refine ih (j + 1) τ g1 (fun c i a b => by rw [g2 c i a b, hf c i a b]) (fun p t h1 h2 h3 h4 => ?_) (by omega) (by omega) hq
      by_cases e : p = (j : Int)
      · subst e
        rw [g3 t h3 h4, abC_fr hH lo]
      · rw [g4 _ (by omega)]
        exact hd p t h1 (by omega) h3 h4
theorem s_find36 {d : Nat} {σ : Mem} {n : Nat} {Q : Pst} {H : Int} (hG : GR σ) (hP : PV σ) (hH : 114 ≤ H) (hc : 0 ≤ σ H 0 ∧ σ H 0 ≤ 19) (ht : 0 ≤ σ H 3 ∧ σ H 3 ≤ 9) (k : ∀ τ, GR τ → (∀ c i, ¬ c = 13 → ¬ (c = 36 ∧ i = 4) → ¬ (37 ≤ c ∧ c ≤ 40) → τ c i = σ c i) → τ 36 4 = ((tmL (abC σ H) 5 (90 < σ H 1) (σ H 3)).length : Int) → TLs τ 37 0 (tmL (abC σ H) 5 (90 < σ H 1) (σ H 3)) → Q none τ n) : EVM (d + 4) 69 [(19, 36), (13, H), (16, 3), (15, 6)] σ n Q := by
  show EV (d + 4) 69 0 [(19, 36), (13, H), (16, 3), (15, 6), (9, 0)] [] σ n Q
  refine r36_69_0 (k := ?_)
  have lo : ∀ c i, (c ≤ 12 ∨ 114 ≤ c) → wrM σ 36 4 0 c i = σ c i := fun c i h => wr_ne (by omega)
  have eH : ∀ i, wrM σ 36 4 0 H i = σ H i := fun i => lo H i (by omega)
  refine l_find36 (σ0 := wrM σ 36 4 0) (hP.fr lo) hH (by rw [eH]; exact hc) 6 0 _ (GR.wr hG (by decide)) (fun _ _ _ _ => rfl) (fun p t a b => by omega) (by omega) (by omega) ?_
  intro τ l g1 g2 g3
  have ab : abC (wrM σ 36 4 0) H = abC σ H := funext fun p => funext fun t => abC_fr hH lo p t
  rw [ab] at g3
  have e1 : τ H 1 = σ H 1 := by rw [g2 H 1 (by omega) (by omega), eH]
  have e3 : τ H 3 = σ H 3 := by rw [g2 H 3 (by omega) (by omega), eH]
  have L0 : TmS 36 τ τ [] := ⟨fun _ _ _ _ => rfl, by rw [g2 36 4 (by decide) (by decide), wr_same]; rfl, fun i e he => by simp at he⟩
  have fin : ∀ τ2 l2, TmS 36 τ τ2 l2 → l2 = tmL (abC σ H) 5 (90 < σ H 1) (σ H 3) → Q none τ2 n := fun τ2 l2 hL e => by
    subst e
    refine k τ2 (hL.GR36 g1) (fun c i q1 q2 q3 => ?_) hL.2.1 hL.2.2
    rw [hL.1 c i q2 (by omega), g2 c i q1 (by omega), wr_if, if_neg q2]
  refine r36_69_29 (h0 := by omega) (k := ?_)
  refine s_isLong (by omega) (fun c => ?_) (fun c => ?_)
  · dsimp only [Option.toList_some, List.cons_append, List.nil_append]
    refine r36_69_33 (ht := fun c => absurd c (by decide)) (hf := fun _ => ?_)
    refine r36_69_36 (h0 := by omega) (k := ?_)
    rw [e3]
    refine s_addPairs36 g1 g3 ht L0 (fun τ2 hL => ?_)
    dsimp only [Option.toList_none, List.nil_append]
    refine r36_69_44 (k := ?_)
    refine fin τ2 _ hL ?_
    unfold tmL
    rw [if_pos (by omega)]
  · dsimp only [Option.toList_some, List.cons_append, List.nil_append]
    refine r36_69_33 (ht := fun _ => ?_) (hf := fun c => absurd c (by decide))
    refine r36_69_45 (h0 := by omega) (k := ?_)
    rw [e3]
    refine s_addSingles36 g1 g3 ht L0 (fun τ2 hL => ?_)
    dsimp only [Option.toList_none, List.nil_append]
    have es := hL.2.1
    refine r36_69_53 (ht := fun c2 => ?_) (hf := fun c2 => ?_)
    · refine r36_69_68 (k := ?_)
      refine fin τ2 _ hL ?_
      unfold tmL
      rw [if_neg (by omega), if_neg (by omega)]
    · refine r36_69_60 (h0 := by omega) (k := ?_)
      rw [hL.1 H 3 (by omega) (by omega), e3]
      have hl0 : sgN (abC σ H) (σ H 3) 5 = [] := List.eq_nil_of_length_eq_zero (by omega)
      rw [hl0] at hL
      refine s_addRelays36 g1 g3 ht hL (fun τ3 hL3 => ?_)
      dsimp only [Option.toList_none, List.nil_append]
      refine r36_69_68 (k := ?_)
      refine fin τ3 _ hL3 ?_
      unfold tmL
      rw [if_neg (by omega), if_pos (by rw [hl0]; rfl)]
set_option maxHeartbeats 2000000 in
theorem l_mk41 {d : Nat} {n : Nat} {Q : Pst} {σ0 : Mem} {H p mc : Int} {hH : 114 ≤ H} {hp : 0 ≤ p ∧ p ≤ 4} {hmc : mc = 0 ∨ mc = 1} : ∀ (k : Nat) (j : Nat) (σ : Mem), (GR σ) → (∀ c i, ¬ c = 45 → σ c i = σ0 c i) → (∀ t, 0 ≤ t → t < (j : Int) → σ 45 (p * 10 + t) = if mc = 1 ∧ σ0 H 4 ≤ σ0 13 t then 1 else 0) → (∀ i, ¬ (p * 10 ≤ i ∧ i < p * 10 + 10) → σ 45 i = σ0 45 i) → (j ≤ 10) → (10 - j < k) → (∀ τ, GR τ → (∀ c i, ¬ c = 45 → τ c i = σ0 c i) → (∀ t, 0 ≤ t → t < 10 → τ 45 (p * 10 + t) = if mc = 1 ∧ σ0 H 4 ≤ σ0 13 t then 1 else 0) → (∀ i, ¬ (p * 10 ≤ i ∧ i < p * 10 + 10) → τ 45 i = σ0 45 i) → Q none τ n) → EV d 74 42 [(19, 41), (0, p), (13, H), (16, 3), (15, 6), (0, mc), (50, 13), (0, (j : Int))] [] σ n Q := by
  intro k
  induction k with
  | zero => intros; exfalso; omega
  | succ k ih =>
    intro j σ hG hf hd ho hj hk hq
    have e13 := hf 13 j (by decide)
    have eH := hf H 4 (by omega)
    refine r41_74_42  (ht := fun c => ?_) (hf := fun c => ?_)
    · skip
      refine r41_74_89  (k := ?_)
      exact hq σ hG hf (fun t h0 h1 => hd t h0 (by omega)) ho
    · skip
      refine r41_74_49 (hG := hG) (ht := fun c => ?_) (hf := fun c => ?_)
      · skip
        refine r41_74_81 (h0 := (by first | decide | omega | (rw [show lnF 13 = 10 from by decide]; omega) | (rw [show lnF 45 = 50 from by decide]; simp (disch := omega) only [Zadd_eq, Zmul_eq]; omega))) (h1 := (by first | decide | omega | (rw [show lnF 13 = 10 from by decide]; omega) | (rw [show lnF 45 = 50 from by decide]; simp (disch := omega) only [Zadd_eq, Zmul_eq]; omega))) (k := ?_)
        rw [Zadd_nat (by omega), show Zadd (Zmul p 10) (j : Int) = p * 10 + j by (simp (disch := omega) only [Zadd_eq, Zmul_eq])]
        refine ih (j + 1) _ (GR.wrk hG (by decide)) (fun c i hc => by rw [wr_ne hc]; exact hf c i hc) (fun t h0 h1 => ?_) (fun i hi => ?_) (by omega) (by omega) hq
        · rw [wr_if]
          split
          · rename_i z
            have e : t = (j : Int) := by omega
            subst e
            (first | (rw [Zznar_01 (Or.inr rfl), if_pos ⟨by omega, by omega⟩]) | (rw [Zznar_01 (Or.inl rfl), if_neg (by omega)]))
          · rename_i z
            exact hd t h0 (by omega)
        · rw [wr_nej (by omega)]; exact ho i hi
      · skip
        refine r41_74_65 (h0 := (by first | decide | omega | (rw [show lnF 13 = 10 from by decide]; omega) | (rw [show lnF 45 = 50 from by decide]; simp (disch := omega) only [Zadd_eq, Zmul_eq]; omega))) (h1 := (by first | decide | omega | (rw [show lnF 13 = 10 from by decide]; omega) | (rw [show lnF 45 = 50 from by decide]; simp (disch := omega) only [Zadd_eq, Zmul_eq]; omega))) (h2 := (by first | decide | omega | (rw [show lnF 13 = 10 from by decide]; omega) | (rw [show lnF 45 = 50 from by decide]; simp (disch := omega) only [Zadd_eq, Zmul_eq]; omega))) (ht := fun c => ?_) (hf := fun c => ?_)
        · skip
          refine r41_74_81 (h0 := (by first | decide | omega | (rw [show lnF 13 = 10 from by decide]; omega) | (rw [show lnF 45 = 50 from by decide]; simp (disch := omega) only [Zadd_eq, Zmul_eq]; omega))) (h1 := (by first | decide | omega | (rw [show lnF 13 = 10 from by decide]; omega) | (rw [show lnF 45 = 50 from by decide]; simp (disch := omega) only [Zadd_eq, Zmul_eq]; omega))) (k := ?_)
          rw [Zadd_nat (by omega), show Zadd (Zmul p 10) (j : Int) = p * 10 + j by (simp (disch := omega) only [Zadd_eq, Zmul_eq])]
          refine ih (j + 1) _ (GR.wrk hG (by decide)) (fun c i hc => by rw [wr_ne hc]; exact hf c i hc) (fun t h0 h1 => ?_) (fun i hi => ?_) (by omega) (by omega) hq
          · rw [wr_if]
            split
            · rename_i z
              have e : t = (j : Int) := by omega
              subst e
              (first | (rw [Zznar_01 (Or.inr rfl), if_pos ⟨by omega, by omega⟩]) | (rw [Zznar_01 (Or.inl rfl), if_neg (by omega)]))
            · rename_i z
              exact hd t h0 (by omega)
          · rw [wr_nej (by omega)]; exact ho i hi
        · skip
          refine r41_74_77 (h0 := (by first | decide | omega | (rw [show lnF 13 = 10 from by decide]; omega) | (rw [show lnF 45 = 50 from by decide]; simp (disch := omega) only [Zadd_eq, Zmul_eq]; omega))) (h1 := (by first | decide | omega | (rw [show lnF 13 = 10 from by decide]; omega) | (rw [show lnF 45 = 50 from by decide]; simp (disch := omega) only [Zadd_eq, Zmul_eq]; omega))) (k := ?_)
          rw [Zadd_nat (by omega), show Zadd (Zmul p 10) (j : Int) = p * 10 + j by (simp (disch := omega) only [Zadd_eq, Zmul_eq])]
          refine ih (j + 1) _ (GR.wrk hG (by decide)) (fun c i hc => by rw [wr_ne hc]; exact hf c i hc) (fun t h0 h1 => ?_) (fun i hi => ?_) (by omega) (by omega) hq
          · rw [wr_if]
            split
            · rename_i z
              have e : t = (j : Int) := by omega
              subst e
              (first | (rw [Zznar_01 (Or.inr rfl), if_pos ⟨by omega, by omega⟩]) | (rw [Zznar_01 (Or.inl rfl), if_neg (by omega)]))
            · rename_i z
              exact hd t h0 (by omega)
          · rw [wr_nej (by omega)]; exact ho i hi
set_option maxHeartbeats 2000000 in
theorem s_mark41 {d : Nat} {σ : Mem} {n : Nat} {Q : Pst} {H p : Int} (hG : GR σ) (hP : PV σ) (hH : 114 ≤ H) (hp : 0 ≤ p ∧ p ≤ 4) (hc : 0 ≤ σ H 0 ∧ σ H 0 ≤ 19) (k : ∀ τ, GR τ → (∀ c i, ¬ c = 13 → ¬ c = 45 → τ c i = σ c i) → (∀ t, 0 ≤ t → t ≤ 9 → τ 45 (p * 10 + t) = if abC σ H p t = true then 1 else 0) → (∀ i, ¬ (p * 10 ≤ i ∧ i < p * 10 + 10) → τ 45 i = σ 45 i) → Q none τ n) : EVM (d + 3) 74 [(19, 41), (0, p), (13, H), (16, 3), (15, 6)] σ n Q := by
  show EV (d + 3) 74 0 [(19, 41), (0, p), (13, H), (16, 3), (15, 6), (9, 0), (9, 0), (9, 0)] [] σ n Q
  refine r41_74_0  (k := ?_)
  refine s_has (fun c => ?_) (fun c => ?_)
  · dsimp only [Option.toList_some, List.cons_append, List.nil_append]
    refine r41_74_5  (ht := fun c => absurd c (by decide)) (hf := fun _ => ?_)
    refine r41_74_8 (h0 := (by first | decide | omega | (rw [show lnF 13 = 10 from by decide]; omega) | (rw [show lnF 45 = 50 from by decide]; simp (disch := omega) only [Zadd_eq, Zmul_eq]; omega))) (k := ?_)
    refine s_isBarred hG (fun c => ?_) (fun c => ?_)
    · dsimp only [Option.toList_some, List.cons_append, List.nil_append]
      refine r41_74_17  (ht := fun _ => ?_) (hf := fun c => absurd c (by decide))
      refine r41_74_24 (h0 := (by first | decide | omega | (rw [show lnF 13 = 10 from by decide]; omega) | (rw [show lnF 45 = 50 from by decide]; simp (disch := omega) only [Zadd_eq, Zmul_eq]; omega))) (k := ?_)
      refine s_gradesOf hG hP (fun σ1 hG1 hf1 h1 => ?_)
      dsimp only [Option.toList_some, Option.toList_none, List.cons_append, List.nil_append]
      refine r41_74_37  (k := ?_)
      refine l_mk41 (σ0 := σ1) (hH := hH) (hp := hp) (hmc := by decide) 11 0 σ1 hG1 (fun _ _ _ => rfl) (fun t a b => by omega) (fun _ _ => rfl) (by omega) (by omega) (fun τ g1 g2 g3 g4 => k τ g1 (fun c i a b => by rw [g2 c i b, hf1 c i a]) (fun t a b => ?_) (fun i a => by rw [g4 i a, hf1 _ _ (by decide)]))
      rw [g3 t a (by omega), hf1 H 4 (by omega), h1 t a b]
      split
      · rw [if_pos (abC_iff.mpr (by omega))]
      · rw [if_neg (fun z => by have := abC_iff.mp z; omega)]
    · dsimp only [Option.toList_some, List.cons_append, List.nil_append]
      refine r41_74_17  (ht := fun c => absurd c (by decide)) (hf := fun _ => ?_)
      refine r41_74_20 (h0 := (by first | decide | omega | (rw [show lnF 13 = 10 from by decide]; omega) | (rw [show lnF 45 = 50 from by decide]; simp (disch := omega) only [Zadd_eq, Zmul_eq]; omega))) (k := ?_)
      refine s_gradesOf hG hP (fun σ1 hG1 hf1 h1 => ?_)
      dsimp only [Option.toList_some, Option.toList_none, List.cons_append, List.nil_append]
      refine r41_74_37  (k := ?_)
      refine l_mk41 (σ0 := σ1) (hH := hH) (hp := hp) (hmc := by decide) 11 0 σ1 hG1 (fun _ _ _ => rfl) (fun t a b => by omega) (fun _ _ => rfl) (by omega) (by omega) (fun τ g1 g2 g3 g4 => k τ g1 (fun c i a b => by rw [g2 c i b, hf1 c i a]) (fun t a b => ?_) (fun i a => by rw [g4 i a, hf1 _ _ (by decide)]))
      rw [g3 t a (by omega), hf1 H 4 (by omega), h1 t a b]
      split
      · rw [if_pos (abC_iff.mpr (by omega))]
      · rw [if_neg (fun z => by have := abC_iff.mp z; omega)]
  · dsimp only [Option.toList_some, List.cons_append, List.nil_append]
    refine r41_74_5  (ht := fun _ => ?_) (hf := fun c => absurd c (by decide))
    refine r41_74_24 (h0 := (by first | decide | omega | (rw [show lnF 13 = 10 from by decide]; omega) | (rw [show lnF 45 = 50 from by decide]; simp (disch := omega) only [Zadd_eq, Zmul_eq]; omega))) (k := ?_)
    refine s_gradesOf hG hP (fun σ1 hG1 hf1 h1 => ?_)
    dsimp only [Option.toList_some, Option.toList_none, List.cons_append, List.nil_append]
    refine r41_74_37  (k := ?_)
    refine l_mk41 (σ0 := σ1) (hH := hH) (hp := hp) (hmc := by decide) 11 0 σ1 hG1 (fun _ _ _ => rfl) (fun t a b => by omega) (fun _ _ => rfl) (by omega) (by omega) (fun τ g1 g2 g3 g4 => k τ g1 (fun c i a b => by rw [g2 c i b, hf1 c i a]) (fun t a b => ?_) (fun i a => by rw [g4 i a, hf1 _ _ (by decide)]))
    rw [g3 t a (by omega), hf1 H 4 (by omega), h1 t a b]
    split
    · rw [if_pos (abC_iff.mpr (by omega))]
    · rw [if_neg (fun z => by have := abC_iff.mp z; omega)]
set_option maxHeartbeats 2000000 in
theorem l_find41 {d : Nat} {n : Nat} {Q : Pst} {σ0 : Mem} {H : Int} (hP : PV σ0) (hH : 114 ≤ H) (hc : 0 ≤ σ0 H 0 ∧ σ0 H 0 ≤ 19) : ∀ (k j : Nat) (σ : Mem), GR σ → (∀ c i, ¬ c = 13 → ¬ c = 45 → σ c i = σ0 c i) → (∀ p t, 0 ≤ p → p < (j : Int) → 0 ≤ t → t ≤ 9 → σ 45 (p * 10 + t) = if abC σ0 H p t = true then 1 else 0) → j ≤ 5 → 5 - j < k → (∀ τ l, GR τ → (∀ c i, ¬ c = 13 → ¬ c = 45 → τ c i = σ0 c i) → AB 41 τ (abC σ0 H) → EV (d + 4) 69 29 [(19, 41), (13, H), (16, 3), (15, 6), (0, l)] [] τ n Q) → EV (d + 4) 69 8 [(19, 41), (13, H), (16, 3), (15, 6), (0, (j : Int))] [] σ n Q := by
  intro k
  induction k with
  | zero => intros; exfalso; omega
  | succ k ih =>
    intro j σ hG hf hd hj hk hq
    have lo : ∀ c i, (c ≤ 12 ∨ 114 ≤ c) → σ c i = σ0 c i := fun c i h => hf c i (by omega) (by omega)
    refine r41_69_8 (ht := fun c => ?_) (hf := fun c => ?_)
    · exact hq σ _ hG hf (fun p t h1 h2 h3 h4 => hd p t h1 (by omega) h3 h4)
    · refine r41_69_14 (k := ?_)
      have e0 := hf H 0 (by omega) (by omega)
      refine s_mark41 hG (hP.fr lo) hH (by omega) (by rw [e0]; exact hc) (fun τ g1 g2 g3 g4 => ?_)
      dsimp only [Option.toList_none, List.nil_append]
      refine r41_69_23 (k := ?_)
      rw [Zadd_nat (by omega)]
      refine ih (j + 1) τ g1 (fun c i a b => by rw [g2 c i a b, hf c i a b]) (fun p t h1 h2 h3 h4 => ?_) (by omega) (by omega) hq
      by_cases e : p = (j : Int)
      · subst e
        rw [g3 t h3 h4, abC_fr hH lo]
      · rw [g4 _ (by omega)]
        exact hd p t h1 (by omega) h3 h4
theorem s_find41 {d : Nat} {σ : Mem} {n : Nat} {Q : Pst} {H : Int} (hG : GR σ) (hP : PV σ) (hH : 114 ≤ H) (hc : 0 ≤ σ H 0 ∧ σ H 0 ≤ 19) (ht : 0 ≤ σ H 3 ∧ σ H 3 ≤ 9) (k : ∀ τ, GR τ → (∀ c i, ¬ c = 13 → ¬ (c = 41 ∧ i = 4) → ¬ (42 ≤ c ∧ c ≤ 45) → τ c i = σ c i) → τ 41 4 = ((tmL (abC σ H) 5 (90 < σ H 1) (σ H 3)).length : Int) → TLs τ 42 0 (tmL (abC σ H) 5 (90 < σ H 1) (σ H 3)) → Q none τ n) : EVM (d + 4) 69 [(19, 41), (13, H), (16, 3), (15, 6)] σ n Q := by
  show EV (d + 4) 69 0 [(19, 41), (13, H), (16, 3), (15, 6), (9, 0)] [] σ n Q
  refine r41_69_0 (k := ?_)
  have lo : ∀ c i, (c ≤ 12 ∨ 114 ≤ c) → wrM σ 41 4 0 c i = σ c i := fun c i h => wr_ne (by omega)
  have eH : ∀ i, wrM σ 41 4 0 H i = σ H i := fun i => lo H i (by omega)
  refine l_find41 (σ0 := wrM σ 41 4 0) (hP.fr lo) hH (by rw [eH]; exact hc) 6 0 _ (GR.wr hG (by decide)) (fun _ _ _ _ => rfl) (fun p t a b => by omega) (by omega) (by omega) ?_
  intro τ l g1 g2 g3
  have ab : abC (wrM σ 41 4 0) H = abC σ H := funext fun p => funext fun t => abC_fr hH lo p t
  rw [ab] at g3
  have e1 : τ H 1 = σ H 1 := by rw [g2 H 1 (by omega) (by omega), eH]
  have e3 : τ H 3 = σ H 3 := by rw [g2 H 3 (by omega) (by omega), eH]
  have L0 : TmS 41 τ τ [] := ⟨fun _ _ _ _ => rfl, by rw [g2 41 4 (by decide) (by decide), wr_same]; rfl, fun i e he => by simp at he⟩
  have fin : ∀ τ2 l2, TmS 41 τ τ2 l2 → l2 = tmL (abC σ H) 5 (90 < σ H 1) (σ H 3) → Q none τ2 n := fun τ2 l2 hL e => by
    subst e
    refine k τ2 (hL.GR41 g1) (fun c i q1 q2 q3 => ?_) hL.2.1 hL.2.2
    rw [hL.1 c i q2 (by omega), g2 c i q1 (by omega), wr_if, if_neg q2]
  refine r41_69_29 (h0 := by omega) (k := ?_)
  refine s_isLong (by omega) (fun c => ?_) (fun c => ?_)
  · dsimp only [Option.toList_some, List.cons_append, List.nil_append]
    refine r41_69_33 (ht := fun c => absurd c (by decide)) (hf := fun _ => ?_)
    refine r41_69_36 (h0 := by omega) (k := ?_)
    rw [e3]
    refine s_addPairs41 g1 g3 ht L0 (fun τ2 hL => ?_)
    dsimp only [Option.toList_none, List.nil_append]
    refine r41_69_44 (k := ?_)
    refine fin τ2 _ hL ?_
    unfold tmL
    rw [if_pos (by omega)]
  · dsimp only [Option.toList_some, List.cons_append, List.nil_append]
    refine r41_69_33 (ht := fun _ => ?_) (hf := fun c => absurd c (by decide))
    refine r41_69_45 (h0 := by omega) (k := ?_)
    rw [e3]
    refine s_addSingles41 g1 g3 ht L0 (fun τ2 hL => ?_)
    dsimp only [Option.toList_none, List.nil_append]
    have es := hL.2.1
    refine r41_69_53 (ht := fun c2 => ?_) (hf := fun c2 => ?_)
    · refine r41_69_68 (k := ?_)
      refine fin τ2 _ hL ?_
      unfold tmL
      rw [if_neg (by omega), if_neg (by omega)]
    · refine r41_69_60 (h0 := by omega) (k := ?_)
      rw [hL.1 H 3 (by omega) (by omega), e3]
      have hl0 : sgN (abC σ H) (σ H 3) 5 = [] := List.eq_nil_of_length_eq_zero (by omega)
      rw [hl0] at hL
      refine s_addRelays41 g1 g3 ht hL (fun τ3 hL3 => ?_)
      dsimp only [Option.toList_none, List.nil_append]
      refine r41_69_68 (k := ?_)
      refine fin τ3 _ hL3 ?_
      unfold tmL
      rw [if_neg (by omega), if_pos (by rw [hl0]; rfl)]
/-- for any of the five Teams -/
def TK (K : Int) : Prop := K = 16 ∨ K = 26 ∨ K = 31 ∨ K = 36 ∨ K = 41
theorem s_find {d : Nat} {σ : Mem} {n : Nat} {Q : Pst} {K H : Int} (hK : TK K) (hG : GR σ) (hP : PV σ) (hH : 114 ≤ H) (hc : 0 ≤ σ H 0 ∧ σ H 0 ≤ 19) (ht : 0 ≤ σ H 3 ∧ σ H 3 ≤ 9) (k : ∀ τ, GR τ → (∀ c i, ¬ c = 13 → ¬ (c = K ∧ i = 4) → ¬ (K + 1 ≤ c ∧ c ≤ K + 4) → τ c i = σ c i) → τ K 4 = ((tmL (abC σ H) 5 (90 < σ H 1) (σ H 3)).length : Int) → TLs τ (K + 1) 0 (tmL (abC σ H) 5 (90 < σ H 1) (σ H 3)) → Q none τ n) : EVM (d + 4) 69 [(19, K), (13, H), (16, 3), (15, 6)] σ n Q := by
  rcases hK with rfl | rfl | rfl | rfl | rfl
  · exact s_find16 hG hP hH hc ht k
  · exact s_find26 hG hP hH hc ht k
  · exact s_find31 hG hP hH hc ht k
  · exact s_find36 hG hP hH hc ht k
  · exact s_find41 hG hP hH hc ht k
set_option maxHeartbeats 2000000 in
theorem s_first {d : Nat} {σ : Mem} {n : Nat} {Q : Pst} {K x : Int} (hK : TK K) (hG : GR σ) (k : ∀ v, v = (if 0 ≤ x ∧ x < σ K 4 ∧ x < 20 then σ (K + 1) x else -1 : Int) → Q (some (0, v)) σ n) : EVM (d + 1) 70 [(19, K), (0, x)] σ n Q := by
  rcases hK with rfl | rfl | rfl | rfl | rfl
  · exact s_first16 hG k
  · exact s_first26 hG k
  · exact s_first31 hG k
  · exact s_first36 hG k
  · exact s_first41 hG k
set_option maxHeartbeats 2000000 in
theorem s_second {d : Nat} {σ : Mem} {n : Nat} {Q : Pst} {K x : Int} (hK : TK K) (hG : GR σ) (k : ∀ v, v = (if 0 ≤ x ∧ x < σ K 4 ∧ x < 20 then σ (K + 2) x else -1 : Int) → Q (some (0, v)) σ n) : EVM (d + 1) 71 [(19, K), (0, x)] σ n Q := by
  rcases hK with rfl | rfl | rfl | rfl | rfl
  · exact s_second16 hG k
  · exact s_second26 hG k
  · exact s_second31 hG k
  · exact s_second36 hG k
  · exact s_second41 hG k
set_option maxHeartbeats 2000000 in
theorem s_relay {d : Nat} {σ : Mem} {n : Nat} {Q : Pst} {K x : Int} (hK : TK K) (hG : GR σ) (k : ∀ v, v = (if 0 ≤ x ∧ x < σ K 4 ∧ x < 20 then σ (K + 3) x else -1 : Int) → Q (some (0, v)) σ n) : EVM (d + 1) 72 [(19, K), (0, x)] σ n Q := by
  rcases hK with rfl | rfl | rfl | rfl | rfl
  · exact s_relay16 hG k
  · exact s_relay26 hG k
  · exact s_relay31 hG k
  · exact s_relay36 hG k
  · exact s_relay41 hG k
