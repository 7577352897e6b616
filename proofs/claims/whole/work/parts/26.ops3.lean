/-! bars, answers, what was planned, turns, cancelling -/
set_option maxHeartbeats 2000000 in
theorem lk_cons {x k : Int} {v a : Nat} {l : List (Int × Nat)} : (((k, v) :: l).lookup x).getD a = if x = k then v else (l.lookup x).getD a := by
  by_cases h : x = k
  · rw [if_pos h, List.lookup_cons, h, beq_self_eq_true]; rfl
  · rw [if_neg h, List.lookup_cons, beq_false_of_ne h]
theorem lk_nil {x : Int} {a : Nat} : (([] : List (Int × Nat)).lookup x).getD a = a := rfl
theorem ite_two {c : Prop} [Decidable c] {d m a b : Nat} {L st : List AV} {σ : Mem} {n : Nat} {Q : Pst} (ht : c → EV d m a L st σ n Q) (hf : ¬ c → EV d m b L st σ n Q) : EV d m (if c then a else b) L st σ n Q := by
  by_cases h : c
  · rw [if_pos h]; exact ht h
  · rw [if_neg h]; exact hf h
set_option maxHeartbeats 2000000 in
theorem W52 {σ : Mem} {k y b : Int} (hG : GR σ) : wrM (wrM σ 58 k y) 56 k b 52 4 = 57 := by
  rw [wr_if, if_neg (by omega), wr_if, if_neg (by omega)]; exact g_52_4 hG
set_option maxHeartbeats 2000000 in
theorem m_bar {d : Nat} {σ : Mem} {n : Nat} {Q : Pst} {p w b : Int} (hG : GR σ) (hb : b = 0 ∨ b = 1) (hp : 0 ≤ σ 69 2 ∧ σ 69 2 ≤ 5) (hz : Zsub (σ 69 2) 1 = σ 69 2 - 1) (hv : 0 ≤ p ∧ p < σ 69 2 ∧ 0 ≤ w ∧ w ≤ 19 → ∀ v, v = (if σ 78 (20 * p + w) = b then (0 : Int) else 1) → Q (some (0, v)) (wrM σ 78 (20 * p + w) b) n) (hn : ¬ (0 ≤ p ∧ p < σ 69 2 ∧ 0 ≤ w ∧ w ≤ 19) → Q (some (0, 0)) σ n) : EVM (d + 2) 132 [(22, 69), (0, p), (0, w), (0, b)] σ n Q := by
  show EV (d + 2) 132 0 [(22, 69), (0, p), (0, w), (0, b), (9, 0)] [] σ n Q
  refine r_132_0  (k := ?_)
  refine m_isPerson (fun c => ?_) (fun c => ?_)
  · dsimp only [Option.toList_some, List.cons_append, List.nil_append]
    refine r_132_5  (ht := fun c => absurd c (by decide)) (hf := fun _ => ?_)
    refine r_132_8  (k := ?_)
    refine m_in (fun c => ?_) (fun c => ?_)
    · dsimp only [Option.toList_some, List.cons_append, List.nil_append]
      refine r_132_15  (ht := fun _ => ?_) (hf := fun c => absurd c (by decide))
      refine r_132_20 (hG := hG) (h0 := (by first | omega | (rw [hz] at *; omega) | (simp (disch := omega) only [Zadd_eq, Zsub_eq, Zmul_eq]; omega))) (ht := fun c => ?_) (hf := fun c => ?_)
      · skip
        refine r_132_55  (k := ?_)
        (first | exact hn (by omega) | (simp (disch := omega) only [Zadd_eq, Zmul_eq] at *; rw [Zznar_01 hb]; exact hv (by omega) _ (by split <;> omega)))
      · skip
        refine r_132_51  (k := ?_)
        (first | exact hn (by omega) | (simp (disch := omega) only [Zadd_eq, Zmul_eq] at *; rw [Zznar_01 hb]; exact hv (by omega) _ (by split <;> omega)))
    · dsimp only [Option.toList_some, List.cons_append, List.nil_append]
      refine r_132_15  (ht := fun c => absurd c (by decide)) (hf := fun _ => ?_)
      refine r_132_18  (k := ?_)
      (first | exact hn (by omega) | (simp (disch := omega) only [Zadd_eq, Zmul_eq] at *; rw [Zznar_01 hb]; exact hv (by omega) _ (by split <;> omega)))
  · dsimp only [Option.toList_some, List.cons_append, List.nil_append]
    refine r_132_5  (ht := fun _ => ?_) (hf := fun c => absurd c (by decide))
    refine r_132_18  (k := ?_)
    (first | exact hn (by omega) | (simp (disch := omega) only [Zadd_eq, Zmul_eq] at *; rw [Zznar_01 hb]; exact hv (by omega) _ (by split <;> omega)))
set_option maxHeartbeats 2000000 in
theorem m_ask {d : Nat} {σ : Mem} {n : Nat} {Q : Pst} {h p y : Int} (hG : GR σ) (hs : 0 ≤ σ 69 55 ∧ σ 69 55 ≤ 60) (hz : Zsub (σ 69 55) 1 = σ 69 55 - 1) (hz2 : Zsub (σ 69 2) 1 = σ 69 2 - 1) (hz3 : Zsub (σ 69 12) 1 = σ 69 12 - 1) (hv : (0 ≤ h ∧ h < σ 69 12) ∧ (0 ≤ p ∧ p < σ 69 2) ∧ (0 ≤ y ∧ y ≤ 999) ∧ (σ 69 55 < 60 ∧ ¬ (0 < σ 69 55 ∧ y < σ 110 (σ 69 55 - 1))) → Q (some (0, σ 69 55)) (wrM (wrM (wrM (wrM (wrM σ 108 (σ 69 55) h) 109 (σ 69 55) p) 110 (σ 69 55) y) 111 (σ 69 55) (-1)) 69 55 (σ 69 55 + 1)) n) (hn : ¬ ((0 ≤ h ∧ h < σ 69 12) ∧ (0 ≤ p ∧ p < σ 69 2) ∧ (0 ≤ y ∧ y ≤ 999) ∧ (σ 69 55 < 60 ∧ ¬ (0 < σ 69 55 ∧ y < σ 110 (σ 69 55 - 1)))) → Q (some (0, -1)) σ n) : EVM (d + 2) 173 [(22, 69), (0, h), (0, p), (0, y)] σ n Q := by
  show EV (d + 2) 173 0 [(22, 69), (0, h), (0, p), (0, y)] [] σ n Q
  refine r_173_0  (ht := fun c => ?_) (hf := fun c => ?_)
  · skip
    refine r_173_54  (k := ?_)
    (first | exact hn (by omega) | (simp only [hz, hz2, hz3] at *; exact hn (by omega)) | (rw [Zadd_eq (by omega) (by omega), Zsub_eq (by omega) (by omega), Int.add_sub_cancel]; simp only [hz, hz2, hz3] at *; exact hv (by omega)))
  · skip
    refine r_173_9  (k := ?_)
    refine m_isHearing (fun c => ?_) (fun c => ?_)
    · dsimp only [Option.toList_some, List.cons_append, List.nil_append]
      refine r_173_14  (ht := fun c => absurd c (by decide)) (hf := fun _ => ?_)
      refine r_173_17  (k := ?_)
      refine m_isPerson (fun c => ?_) (fun c => ?_)
      · dsimp only [Option.toList_some, List.cons_append, List.nil_append]
        refine r_173_22  (ht := fun c => absurd c (by decide)) (hf := fun _ => ?_)
        refine r_173_25  (k := ?_)
        refine m_isDay (fun c => ?_) (fun c => ?_)
        · dsimp only [Option.toList_some, List.cons_append, List.nil_append]
          refine r_173_29  (ht := fun c => absurd c (by decide)) (hf := fun _ => ?_)
          refine r_173_32  (ht := fun c => ?_) (hf := fun c => ?_)
          · skip
            refine r_173_56 (hG := hG) (h0 := (by first | omega | (simp only [hz, hz2, hz3] at *; omega) | (simp (disch := omega) only [Zadd_eq, Zsub_eq, Zmul_eq]; omega))) (k := ?_)
            (first | exact hn (by omega) | (simp only [hz, hz2, hz3] at *; exact hn (by omega)) | (rw [Zadd_eq (by omega) (by omega), Zsub_eq (by omega) (by omega), Int.add_sub_cancel]; simp only [hz, hz2, hz3] at *; exact hv (by omega)))
          · skip
            refine r_173_39 (hG := hG) (h0 := (by first | omega | (simp only [hz, hz2, hz3] at *; omega) | (simp (disch := omega) only [Zadd_eq, Zsub_eq, Zmul_eq]; omega))) (ht := fun c => ?_) (hf := fun c => ?_)
            · skip
              refine r_173_56 (hG := hG) (h0 := (by first | omega | (simp only [hz, hz2, hz3] at *; omega) | (simp (disch := omega) only [Zadd_eq, Zsub_eq, Zmul_eq]; omega))) (k := ?_)
              (first | exact hn (by omega) | (simp only [hz, hz2, hz3] at *; exact hn (by omega)) | (rw [Zadd_eq (by omega) (by omega), Zsub_eq (by omega) (by omega), Int.add_sub_cancel]; simp only [hz, hz2, hz3] at *; exact hv (by omega)))
            · skip
              refine r_173_54  (k := ?_)
              (first | exact hn (by omega) | (simp only [hz, hz2, hz3] at *; exact hn (by omega)) | (rw [Zadd_eq (by omega) (by omega), Zsub_eq (by omega) (by omega), Int.add_sub_cancel]; simp only [hz, hz2, hz3] at *; exact hv (by omega)))
        · dsimp only [Option.toList_some, List.cons_append, List.nil_append]
          refine r_173_29  (ht := fun _ => ?_) (hf := fun c => absurd c (by decide))
          refine r_173_54  (k := ?_)
          (first | exact hn (by omega) | (simp only [hz, hz2, hz3] at *; exact hn (by omega)) | (rw [Zadd_eq (by omega) (by omega), Zsub_eq (by omega) (by omega), Int.add_sub_cancel]; simp only [hz, hz2, hz3] at *; exact hv (by omega)))
      · dsimp only [Option.toList_some, List.cons_append, List.nil_append]
        refine r_173_22  (ht := fun _ => ?_) (hf := fun c => absurd c (by decide))
        refine r_173_54  (k := ?_)
        (first | exact hn (by omega) | (simp only [hz, hz2, hz3] at *; exact hn (by omega)) | (rw [Zadd_eq (by omega) (by omega), Zsub_eq (by omega) (by omega), Int.add_sub_cancel]; simp only [hz, hz2, hz3] at *; exact hv (by omega)))
    · dsimp only [Option.toList_some, List.cons_append, List.nil_append]
      refine r_173_14  (ht := fun _ => ?_) (hf := fun c => absurd c (by decide))
      refine r_173_54  (k := ?_)
      (first | exact hn (by omega) | (simp only [hz, hz2, hz3] at *; exact hn (by omega)) | (rw [Zadd_eq (by omega) (by omega), Zsub_eq (by omega) (by omega), Int.add_sub_cancel]; simp only [hz, hz2, hz3] at *; exact hv (by omega)))
set_option maxHeartbeats 2000000 in
theorem s_close {d : Nat} {σ : Mem} {n : Nat} {Q : Pst} {k y b w : Int} (hG : GR σ) (hb : b = 0 ∨ b = 1) (hv : (0 ≤ k ∧ k < σ 52 6 ∧ k < 60 ∧ σ 55 k ≤ y) ∧ σ 58 k = -1 → Q (some (0, 1)) (wrM (wrM (wrM σ 58 k y) 56 k b) 57 k w) n) (hn : ¬ ((0 ≤ k ∧ k < σ 52 6 ∧ k < 60 ∧ σ 55 k ≤ y) ∧ σ 58 k = -1) → Q (some (0, 0)) σ n) : EVM (d + 1) 25 [(14, 52), (0, k), (0, y), (0, b), (0, w)] σ n Q := by
  show EV (d + 1) 25 0 [(14, 52), (0, k), (0, y), (0, b), (0, w)] [] σ n Q
  refine r_25_0  (k := ?_)
  refine s_isAskedBy hG (fun c => ?_) (fun c => ?_)
  · dsimp only [Option.toList_some, List.cons_append, List.nil_append]
    refine r_25_6  (ht := fun c => absurd c (by decide)) (hf := fun _ => ?_)
    refine r_25_9 (hG := hG) (h0 := (by first | omega | (simp only [W52 hG]; omega) | (rw [W52 hG, show lnF 57 = 60 from by decide]; omega) | (rw [show lnF 56 = 60 from by decide]; omega))) (ht := fun c => ?_) (hf := fun c => ?_)
    · skip
      refine r_25_21 (hG := hG) (h0 := (by first | omega | (simp only [W52 hG]; omega) | (rw [W52 hG, show lnF 57 = 60 from by decide]; omega) | (rw [show lnF 56 = 60 from by decide]; omega))) (ht := fun c => ?_) (hf := fun c => ?_)
      · skip
        refine r_25_41 (h0 := (by first | omega | (simp only [W52 hG]; omega) | (rw [W52 hG, show lnF 57 = 60 from by decide]; omega) | (rw [show lnF 56 = 60 from by decide]; omega))) (h1 := (by first | omega | (simp only [W52 hG]; omega) | (rw [W52 hG, show lnF 57 = 60 from by decide]; omega) | (rw [show lnF 56 = 60 from by decide]; omega))) (h2 := (by first | omega | (simp only [W52 hG]; omega) | (rw [W52 hG, show lnF 57 = 60 from by decide]; omega) | (rw [show lnF 56 = 60 from by decide]; omega))) (h3 := (by first | omega | (simp only [W52 hG]; omega) | (rw [W52 hG, show lnF 57 = 60 from by decide]; omega) | (rw [show lnF 56 = 60 from by decide]; omega))) (k := ?_)
        (first | exact hn (by omega) | (have e : b = 1 := (by omega); subst e; rw [W52 hG]; exact hv (by omega)) | (have e : b = 0 := (by omega); subst e; rw [W52 hG]; exact hv (by omega)))
      · skip
        refine r_25_37 (h0 := (by first | omega | (simp only [W52 hG]; omega) | (rw [W52 hG, show lnF 57 = 60 from by decide]; omega) | (rw [show lnF 56 = 60 from by decide]; omega))) (h1 := (by first | omega | (simp only [W52 hG]; omega) | (rw [W52 hG, show lnF 57 = 60 from by decide]; omega) | (rw [show lnF 56 = 60 from by decide]; omega))) (h2 := (by first | omega | (simp only [W52 hG]; omega) | (rw [W52 hG, show lnF 57 = 60 from by decide]; omega) | (rw [show lnF 56 = 60 from by decide]; omega))) (h3 := (by first | omega | (simp only [W52 hG]; omega) | (rw [W52 hG, show lnF 57 = 60 from by decide]; omega) | (rw [show lnF 56 = 60 from by decide]; omega))) (k := ?_)
        (first | exact hn (by omega) | (have e : b = 1 := (by omega); subst e; rw [W52 hG]; exact hv (by omega)) | (have e : b = 0 := (by omega); subst e; rw [W52 hG]; exact hv (by omega)))
    · skip
      refine r_25_19  (k := ?_)
      (first | exact hn (by omega) | (have e : b = 1 := (by omega); subst e; rw [W52 hG]; exact hv (by omega)) | (have e : b = 0 := (by omega); subst e; rw [W52 hG]; exact hv (by omega)))
  · dsimp only [Option.toList_some, List.cons_append, List.nil_append]
    refine r_25_6  (ht := fun _ => ?_) (hf := fun c => absurd c (by decide))
    refine r_25_19  (k := ?_)
    (first | exact hn (by omega) | (have e : b = 1 := (by omega); subst e; rw [W52 hG]; exact hv (by omega)) | (have e : b = 0 := (by omega); subst e; rw [W52 hG]; exact hv (by omega)))
set_option maxHeartbeats 2000000 in
theorem s_answer {d : Nat} {σ : Mem} {n : Nat} {Q : Pst} {k y b w : Int} (hG : GR σ) (hb : b = 0 ∨ b = 1) (hv : (0 ≤ y ∧ y ≤ 999) ∧ (0 ≤ w ∧ w ≤ 9) ∧ (0 ≤ k ∧ k < σ 52 6 ∧ k < 60 ∧ σ 55 k ≤ y) ∧ σ 58 k = -1 → Q (some (0, 1)) (wrM (wrM (wrM σ 58 k y) 56 k b) 57 k w) n) (hn : ¬ ((0 ≤ y ∧ y ≤ 999) ∧ (0 ≤ w ∧ w ≤ 9) ∧ (0 ≤ k ∧ k < σ 52 6 ∧ k < 60 ∧ σ 55 k ≤ y) ∧ σ 58 k = -1) → Q (some (0, 0)) σ n) : EVM (d + 2) 110 [(21, 0), (0, k), (0, y), (0, b), (0, w)] σ n Q := by
  show EV (d + 2) 110 0 [(21, 0), (0, k), (0, y), (0, b), (0, w)] [] σ n Q
  refine r_110_0  (k := ?_)
  refine s_isDay (fun c => ?_) (fun c => ?_)
  · dsimp only [Option.toList_some, List.cons_append, List.nil_append]
    refine r_110_4  (ht := fun c => absurd c (by decide)) (hf := fun _ => ?_)
    refine r_110_7  (k := ?_)
    refine s_within (fun c => ?_) (fun c => ?_)
    · dsimp only [Option.toList_some, List.cons_append, List.nil_append]
      refine r_110_15  (ht := fun c => absurd c (by decide)) (hf := fun _ => ?_)
      refine r_110_18 (hG := hG) (k := ?_)
      refine s_close hG hb (fun c => ?_) (fun c => ?_)
      · dsimp only [Option.toList_some, List.cons_append, List.nil_append]
        refine r_110_30  (ht := fun c => ?_) (hf := fun c => ?_)
        · skip
          refine r_110_37  (k := ?_)
          (first | exact hn (by omega) | exact hv (by omega) | (exfalso; omega))
        · skip
          refine r_110_33  (k := ?_)
          (first | exact hn (by omega) | exact hv (by omega) | (exfalso; omega))
      · dsimp only [Option.toList_some, List.cons_append, List.nil_append]
        refine r_110_30  (ht := fun c => ?_) (hf := fun c => ?_)
        · skip
          refine r_110_37  (k := ?_)
          (first | exact hn (by omega) | exact hv (by omega) | (exfalso; omega))
        · skip
          refine r_110_33  (k := ?_)
          (first | exact hn (by omega) | exact hv (by omega) | (exfalso; omega))
    · dsimp only [Option.toList_some, List.cons_append, List.nil_append]
      refine r_110_15  (ht := fun _ => ?_) (hf := fun c => absurd c (by decide))
      refine r_110_37  (k := ?_)
      (first | exact hn (by omega) | exact hv (by omega) | (exfalso; omega))
  · dsimp only [Option.toList_some, List.cons_append, List.nil_append]
    refine r_110_4  (ht := fun _ => ?_) (hf := fun c => absurd c (by decide))
    refine r_110_37  (k := ?_)
    (first | exact hn (by omega) | exact hv (by omega) | (exfalso; omega))
set_option maxHeartbeats 2000000 in
theorem m_answer {d : Nat} {σ : Mem} {n : Nat} {Q : Pst} {k y b w : Int} (hG : GR σ) (hb : b = 0 ∨ b = 1) (hs : 0 ≤ σ 69 55 ∧ σ 69 55 ≤ 60) (hz : Zsub (σ 69 55) 1 = σ 69 55 - 1) (hv : (0 ≤ k ∧ k < σ 69 55) ∧ σ 111 k < 0 ∧ (σ 110 k ≤ y ∧ y ≤ 999) ∧ (0 ≤ w ∧ w ≤ 9) → Q (some (0, 1)) (wrM (wrM (wrM σ 111 k y) 112 k b) 113 k w) n) (hn : ¬ ((0 ≤ k ∧ k < σ 69 55) ∧ σ 111 k < 0 ∧ (σ 110 k ≤ y ∧ y ≤ 999) ∧ (0 ≤ w ∧ w ≤ 9)) → Q (some (0, 0)) σ n) : EVM (d + 2) 174 [(22, 69), (0, k), (0, y), (0, b), (0, w)] σ n Q := by
  show EV (d + 2) 174 0 [(22, 69), (0, k), (0, y), (0, b), (0, w)] [] σ n Q
  refine r_174_0  (k := ?_)
  refine m_in (fun c => ?_) (fun c => ?_)
  · dsimp only [Option.toList_some, List.cons_append, List.nil_append]
    refine r_174_11  (ht := fun c => absurd c (by decide)) (hf := fun _ => ?_)
    refine r_174_14 (hG := hG) (h0 := (by first | omega | (rw [hz] at *; omega) | (simp (disch := omega) only [Zadd_eq, Zsub_eq, Zmul_eq]; omega))) (ht := fun c => ?_) (hf := fun c => ?_)
    · skip
      refine r_174_50  (k := ?_)
      (first | exact hn (by omega) | (rw [Zznar_01 hb]; exact hv (by omega)))
    · skip
      refine r_174_23 (hG := hG) (h0 := (by first | omega | (rw [hz] at *; omega) | (simp (disch := omega) only [Zadd_eq, Zsub_eq, Zmul_eq]; omega))) (k := ?_)
      refine m_in (fun c => ?_) (fun c => ?_)
      · dsimp only [Option.toList_some, List.cons_append, List.nil_append]
        refine r_174_36  (ht := fun c => absurd c (by decide)) (hf := fun _ => ?_)
        refine r_174_39  (k := ?_)
        refine m_in (fun c => ?_) (fun c => ?_)
        · dsimp only [Option.toList_some, List.cons_append, List.nil_append]
          refine r_174_47  (ht := fun _ => ?_) (hf := fun c => absurd c (by decide))
          refine r_174_52 (hG := hG) (h0 := (by first | omega | (rw [hz] at *; omega) | (simp (disch := omega) only [Zadd_eq, Zsub_eq, Zmul_eq]; omega))) (k := ?_)
          (first | exact hn (by omega) | (rw [Zznar_01 hb]; exact hv (by omega)))
        · dsimp only [Option.toList_some, List.cons_append, List.nil_append]
          refine r_174_47  (ht := fun c => absurd c (by decide)) (hf := fun _ => ?_)
          refine r_174_50  (k := ?_)
          (first | exact hn (by omega) | (rw [Zznar_01 hb]; exact hv (by omega)))
      · dsimp only [Option.toList_some, List.cons_append, List.nil_append]
        refine r_174_36  (ht := fun _ => ?_) (hf := fun c => absurd c (by decide))
        refine r_174_50  (k := ?_)
        (first | exact hn (by omega) | (rw [Zznar_01 hb]; exact hv (by omega)))
  · dsimp only [Option.toList_some, List.cons_append, List.nil_append]
    refine r_174_11  (ht := fun _ => ?_) (hf := fun c => absurd c (by decide))
    refine r_174_50  (k := ?_)
    (first | exact hn (by omega) | (rw [Zznar_01 hb]; exact hv (by omega)))
set_option maxHeartbeats 2000000 in
theorem s_isAnsweredBy {d : Nat} {σ : Mem} {n : Nat} {Q : Pst} {x y : Int} (hG : GR σ) (ht : (0 ≤ x ∧ x < σ 52 6 ∧ x < 60 ∧ σ 55 x ≤ y) ∧ ¬ σ 58 x = -1 ∧ σ 58 x ≤ y → Q (some (0, 1)) σ n) (hf : ¬ ((0 ≤ x ∧ x < σ 52 6 ∧ x < 60 ∧ σ 55 x ≤ y) ∧ ¬ σ 58 x = -1 ∧ σ 58 x ≤ y) → Q (some (0, 0)) σ n) : EVM (d + 1) 27 [(14, 52), (0, x), (0, y)] σ n Q := by
  show EV (d + 1) 27 0 [(14, 52), (0, x), (0, y)] [] σ n Q
  refine r_27_0  (k := ?_)
  refine s_isAskedBy hG (fun c => ?_) (fun c => ?_)
  · dsimp only [Option.toList_some, List.cons_append, List.nil_append]
    refine r_27_6  (ht := fun c => absurd c (by decide)) (hf := fun _ => ?_)
    refine r_27_9 (hG := hG) (h0 := (by first | omega | (simp (disch := omega) only [Zadd_eq, Zsub_eq, Zmul_eq]; omega))) (ht := fun c => ?_) (hf := fun c => ?_)
    · skip
      refine r_27_33  (k := ?_)
      (first | exact ht (by omega) | exact hf (by omega))
    · skip
      refine r_27_19 (hG := hG) (h0 := (by first | omega | (simp (disch := omega) only [Zadd_eq, Zsub_eq, Zmul_eq]; omega))) (ht := fun c => ?_) (hf := fun c => ?_)
      · skip
        refine r_27_33  (k := ?_)
        (first | exact ht (by omega) | exact hf (by omega))
      · skip
        refine r_27_29  (k := ?_)
        (first | exact ht (by omega) | exact hf (by omega))
  · dsimp only [Option.toList_some, List.cons_append, List.nil_append]
    refine r_27_6  (ht := fun _ => ?_) (hf := fun c => absurd c (by decide))
    refine r_27_33  (k := ?_)
    (first | exact ht (by omega) | exact hf (by omega))
set_option maxHeartbeats 2000000 in
theorem s_known {d : Nat} {σ : Mem} {n : Nat} {Q : Pst} {k y w : Int} (hG : GR σ) (hs : 0 ≤ σ 52 6 ∧ σ 52 6 ≤ 60) (k_ : ∀ v, v = (if (0 ≤ y ∧ y ≤ 999) ∧ (0 ≤ k ∧ k < σ 52 6 ∧ σ 55 k ≤ y) then (if w = 0 then σ 53 k else if w = 1 then σ 54 k else if w = 2 then σ 55 k else if w = 3 then (if ¬ σ 58 k = -1 ∧ σ 58 k ≤ y then σ 56 k else -1) else if w = 4 then (if ¬ σ 58 k = -1 ∧ σ 58 k ≤ y then σ 57 k else -1) else -1) else -1 : Int) → Q (some (0, v)) σ n) : EVM (d + 2) 111 [(21, 0), (0, k), (0, y), (0, w)] σ n Q := by
  show EV (d + 2) 111 0 [(21, 0), (0, k), (0, y), (0, w), (9, 0)] [] σ n Q
  refine r_111_0  (k := ?_)
  refine s_isDay (fun c => ?_) (fun c => ?_)
  · dsimp only [Option.toList_some, List.cons_append, List.nil_append]
    refine r_111_4  (ht := fun c => absurd c (by decide)) (hf := fun _ => ?_)
    refine r_111_7 (hG := hG) (k := ?_)
    refine s_isAskedBy hG (fun c => ?_) (fun c => ?_)
    · dsimp only [Option.toList_some, List.cons_append, List.nil_append]
      refine r_111_16  (ht := fun _ => ?_) (hf := fun c => absurd c (by decide))
      refine r_111_21 (hG := hG) (k := ?_)
      refine s_isAnsweredBy hG (fun c => ?_) (fun c => ?_)
      · dsimp only [Option.toList_some, List.cons_append, List.nil_append]
        refine r_111_30  (k := ?_)
        rw [lk_cons]
        refine ite_two (fun c => ?_) (fun c => ?_)
        · skip
          refine r_111_68 (hG := hG) (h0 := (by first | omega | (simp (disch := omega) only [Zadd_eq, Zsub_eq, Zmul_eq]; omega))) (k := ?_)
          exact k_ _ (by repeat' split <;> omega)
        · skip
          rw [lk_cons]
          refine ite_two (fun c => ?_) (fun c => ?_)
          · skip
            refine r_111_78 (hG := hG) (h0 := (by first | omega | (simp (disch := omega) only [Zadd_eq, Zsub_eq, Zmul_eq]; omega))) (k := ?_)
            exact k_ _ (by repeat' split <;> omega)
          · skip
            rw [lk_cons]
            refine ite_two (fun c => ?_) (fun c => ?_)
            · skip
              refine r_111_88 (hG := hG) (h0 := (by first | omega | (simp (disch := omega) only [Zadd_eq, Zsub_eq, Zmul_eq]; omega))) (k := ?_)
              exact k_ _ (by repeat' split <;> omega)
            · skip
              rw [lk_cons]
              refine ite_two (fun c => ?_) (fun c => ?_)
              · skip
                refine r_111_98  (ht := fun c => ?_) (hf := fun c => ?_)
                · skip
                  refine r_111_115  (k := ?_)
                  exact k_ _ (by repeat' split <;> omega)
                · skip
                  refine r_111_103 (hG := hG) (h0 := (by first | omega | (simp (disch := omega) only [Zadd_eq, Zsub_eq, Zmul_eq]; omega))) (k := ?_)
                  exact k_ _ (by repeat' split <;> omega)
              · skip
                rw [lk_cons]
                refine ite_two (fun c => ?_) (fun c => ?_)
                · skip
                  refine r_111_117  (ht := fun c => ?_) (hf := fun c => ?_)
                  · skip
                    refine r_111_134  (k := ?_)
                    exact k_ _ (by repeat' split <;> omega)
                  · skip
                    refine r_111_122 (hG := hG) (h0 := (by first | omega | (simp (disch := omega) only [Zadd_eq, Zsub_eq, Zmul_eq]; omega))) (k := ?_)
                    exact k_ _ (by repeat' split <;> omega)
                · skip
                  rw [lk_nil]
                  refine r_111_136  (k := ?_)
                  exact k_ _ (by repeat' split <;> omega)
      · dsimp only [Option.toList_some, List.cons_append, List.nil_append]
        refine r_111_30  (k := ?_)
        rw [lk_cons]
        refine ite_two (fun c => ?_) (fun c => ?_)
        · skip
          refine r_111_68 (hG := hG) (h0 := (by first | omega | (simp (disch := omega) only [Zadd_eq, Zsub_eq, Zmul_eq]; omega))) (k := ?_)
          exact k_ _ (by repeat' split <;> omega)
        · skip
          rw [lk_cons]
          refine ite_two (fun c => ?_) (fun c => ?_)
          · skip
            refine r_111_78 (hG := hG) (h0 := (by first | omega | (simp (disch := omega) only [Zadd_eq, Zsub_eq, Zmul_eq]; omega))) (k := ?_)
            exact k_ _ (by repeat' split <;> omega)
          · skip
            rw [lk_cons]
            refine ite_two (fun c => ?_) (fun c => ?_)
            · skip
              refine r_111_88 (hG := hG) (h0 := (by first | omega | (simp (disch := omega) only [Zadd_eq, Zsub_eq, Zmul_eq]; omega))) (k := ?_)
              exact k_ _ (by repeat' split <;> omega)
            · skip
              rw [lk_cons]
              refine ite_two (fun c => ?_) (fun c => ?_)
              · skip
                refine r_111_98  (ht := fun c => ?_) (hf := fun c => ?_)
                · skip
                  refine r_111_115  (k := ?_)
                  exact k_ _ (by repeat' split <;> omega)
                · skip
                  refine r_111_103 (hG := hG) (h0 := (by first | omega | (simp (disch := omega) only [Zadd_eq, Zsub_eq, Zmul_eq]; omega))) (k := ?_)
                  exact k_ _ (by repeat' split <;> omega)
              · skip
                rw [lk_cons]
                refine ite_two (fun c => ?_) (fun c => ?_)
                · skip
                  refine r_111_117  (ht := fun c => ?_) (hf := fun c => ?_)
                  · skip
                    refine r_111_134  (k := ?_)
                    exact k_ _ (by repeat' split <;> omega)
                  · skip
                    refine r_111_122 (hG := hG) (h0 := (by first | omega | (simp (disch := omega) only [Zadd_eq, Zsub_eq, Zmul_eq]; omega))) (k := ?_)
                    exact k_ _ (by repeat' split <;> omega)
                · skip
                  rw [lk_nil]
                  refine r_111_136  (k := ?_)
                  exact k_ _ (by repeat' split <;> omega)
    · dsimp only [Option.toList_some, List.cons_append, List.nil_append]
      refine r_111_16  (ht := fun c => absurd c (by decide)) (hf := fun _ => ?_)
      refine r_111_19  (k := ?_)
      exact k_ _ (by repeat' split <;> omega)
  · dsimp only [Option.toList_some, List.cons_append, List.nil_append]
    refine r_111_4  (ht := fun _ => ?_) (hf := fun c => absurd c (by decide))
    refine r_111_19  (k := ?_)
    exact k_ _ (by repeat' split <;> omega)
set_option maxHeartbeats 2000000 in
theorem m_known {d : Nat} {σ : Mem} {n : Nat} {Q : Pst} {k y w : Int} (hG : GR σ) (hs : 0 ≤ σ 69 55 ∧ σ 69 55 ≤ 60) (hb : ∀ j, σ 112 j = 0 ∨ σ 112 j = 1) (hz : Zsub (σ 69 55) 1 = σ 69 55 - 1) (k_ : ∀ v, v = (if (0 ≤ y ∧ y ≤ 999) ∧ (0 ≤ k ∧ k < σ 69 55 ∧ σ 110 k ≤ y) then (if w = 0 then σ 108 k else if w = 1 then σ 109 k else if w = 2 then σ 110 k else if w = 3 then (if 0 ≤ σ 111 k ∧ σ 111 k ≤ y then σ 112 k else -1) else if w = 4 then (if 0 ≤ σ 111 k ∧ σ 111 k ≤ y then σ 113 k else -1) else -1) else -1 : Int) → Q (some (0, v)) σ n) : EVM (d + 2) 175 [(22, 69), (0, k), (0, y), (0, w)] σ n Q := by
  show EV (d + 2) 175 0 [(22, 69), (0, k), (0, y), (0, w), (9, 0)] [] σ n Q
  refine r_175_0  (k := ?_)
  refine m_in (fun c => ?_) (fun c => ?_)
  · dsimp only [Option.toList_some, List.cons_append, List.nil_append]
    refine r_175_11  (ht := fun c => absurd c (by decide)) (hf := fun _ => ?_)
    refine r_175_14  (k := ?_)
    refine m_isDay (fun c => ?_) (fun c => ?_)
    · dsimp only [Option.toList_some, List.cons_append, List.nil_append]
      refine r_175_18  (ht := fun c => absurd c (by decide)) (hf := fun _ => ?_)
      refine r_175_21 (hG := hG) (h0 := (by first | omega | (rw [hz] at *; omega) | (simp (disch := omega) only [Zadd_eq, Zsub_eq, Zmul_eq]; omega))) (ht := fun c => ?_) (hf := fun c => ?_)
      · skip
        refine r_175_33 (hG := hG) (h0 := (by first | omega | (rw [hz] at *; omega) | (simp (disch := omega) only [Zadd_eq, Zsub_eq, Zmul_eq]; omega))) (ht := fun c => ?_) (hf := fun c => ?_)
        · skip
          refine r_175_56  (k := ?_)
          rw [lk_cons]
          refine ite_two (fun c => ?_) (fun c => ?_)
          · skip
            refine r_175_96 (hG := hG) (h0 := (by first | omega | (rw [hz] at *; omega) | (simp (disch := omega) only [Zadd_eq, Zsub_eq, Zmul_eq]; omega))) (k := ?_)
            exact k_ _ (by have := hb k; repeat' split <;> omega)
          · skip
            rw [lk_cons]
            refine ite_two (fun c => ?_) (fun c => ?_)
            · skip
              refine r_175_103 (hG := hG) (h0 := (by first | omega | (rw [hz] at *; omega) | (simp (disch := omega) only [Zadd_eq, Zsub_eq, Zmul_eq]; omega))) (k := ?_)
              exact k_ _ (by have := hb k; repeat' split <;> omega)
            · skip
              rw [lk_cons]
              refine ite_two (fun c => ?_) (fun c => ?_)
              · skip
                refine r_175_110 (hG := hG) (h0 := (by first | omega | (rw [hz] at *; omega) | (simp (disch := omega) only [Zadd_eq, Zsub_eq, Zmul_eq]; omega))) (k := ?_)
                exact k_ _ (by have := hb k; repeat' split <;> omega)
              · skip
                rw [lk_cons]
                refine ite_two (fun c => ?_) (fun c => ?_)
                · skip
                  refine r_175_117  (ht := fun c => ?_) (hf := fun c => ?_)
                  · skip
                    refine r_175_126 (hG := hG) (h0 := (by first | omega | (rw [hz] at *; omega) | (simp (disch := omega) only [Zadd_eq, Zsub_eq, Zmul_eq]; omega))) (ht := fun c => ?_) (hf := fun c => ?_)
                    · skip
                      refine r_175_139  (k := ?_)
                      exact k_ _ (by have := hb k; repeat' split <;> omega)
                    · skip
                      refine r_175_135  (k := ?_)
                      exact k_ _ (by have := hb k; repeat' split <;> omega)
                  · skip
                    refine r_175_122  (k := ?_)
                    exact k_ _ (by have := hb k; repeat' split <;> omega)
                · skip
                  rw [lk_cons]
                  refine ite_two (fun c => ?_) (fun c => ?_)
                  · skip
                    refine r_175_141  (ht := fun c => ?_) (hf := fun c => ?_)
                    · skip
                      refine r_175_155  (k := ?_)
                      exact k_ _ (by have := hb k; repeat' split <;> omega)
                    · skip
                      refine r_175_146 (hG := hG) (h0 := (by first | omega | (rw [hz] at *; omega) | (simp (disch := omega) only [Zadd_eq, Zsub_eq, Zmul_eq]; omega))) (k := ?_)
                      exact k_ _ (by have := hb k; repeat' split <;> omega)
                  · skip
                    rw [lk_nil]
                    refine r_175_157  (k := ?_)
                    exact k_ _ (by have := hb k; repeat' split <;> omega)
        · skip
          refine r_175_42 (hG := hG) (h0 := (by first | omega | (rw [hz] at *; omega) | (simp (disch := omega) only [Zadd_eq, Zsub_eq, Zmul_eq]; omega))) (ht := fun c => ?_) (hf := fun c => ?_)
          · skip
            refine r_175_56  (k := ?_)
            rw [lk_cons]
            refine ite_two (fun c => ?_) (fun c => ?_)
            · skip
              refine r_175_96 (hG := hG) (h0 := (by first | omega | (rw [hz] at *; omega) | (simp (disch := omega) only [Zadd_eq, Zsub_eq, Zmul_eq]; omega))) (k := ?_)
              exact k_ _ (by have := hb k; repeat' split <;> omega)
            · skip
              rw [lk_cons]
              refine ite_two (fun c => ?_) (fun c => ?_)
              · skip
                refine r_175_103 (hG := hG) (h0 := (by first | omega | (rw [hz] at *; omega) | (simp (disch := omega) only [Zadd_eq, Zsub_eq, Zmul_eq]; omega))) (k := ?_)
                exact k_ _ (by have := hb k; repeat' split <;> omega)
              · skip
                rw [lk_cons]
                refine ite_two (fun c => ?_) (fun c => ?_)
                · skip
                  refine r_175_110 (hG := hG) (h0 := (by first | omega | (rw [hz] at *; omega) | (simp (disch := omega) only [Zadd_eq, Zsub_eq, Zmul_eq]; omega))) (k := ?_)
                  exact k_ _ (by have := hb k; repeat' split <;> omega)
                · skip
                  rw [lk_cons]
                  refine ite_two (fun c => ?_) (fun c => ?_)
                  · skip
                    refine r_175_117  (ht := fun c => ?_) (hf := fun c => ?_)
                    · skip
                      refine r_175_126 (hG := hG) (h0 := (by first | omega | (rw [hz] at *; omega) | (simp (disch := omega) only [Zadd_eq, Zsub_eq, Zmul_eq]; omega))) (ht := fun c => ?_) (hf := fun c => ?_)
                      · skip
                        refine r_175_139  (k := ?_)
                        exact k_ _ (by have := hb k; repeat' split <;> omega)
                      · skip
                        refine r_175_135  (k := ?_)
                        exact k_ _ (by have := hb k; repeat' split <;> omega)
                    · skip
                      refine r_175_122  (k := ?_)
                      exact k_ _ (by have := hb k; repeat' split <;> omega)
                  · skip
                    rw [lk_cons]
                    refine ite_two (fun c => ?_) (fun c => ?_)
                    · skip
                      refine r_175_141  (ht := fun c => ?_) (hf := fun c => ?_)
                      · skip
                        refine r_175_155  (k := ?_)
                        exact k_ _ (by have := hb k; repeat' split <;> omega)
                      · skip
                        refine r_175_146 (hG := hG) (h0 := (by first | omega | (rw [hz] at *; omega) | (simp (disch := omega) only [Zadd_eq, Zsub_eq, Zmul_eq]; omega))) (k := ?_)
                        exact k_ _ (by have := hb k; repeat' split <;> omega)
                    · skip
                      rw [lk_nil]
                      refine r_175_157  (k := ?_)
                      exact k_ _ (by have := hb k; repeat' split <;> omega)
          · skip
            refine r_175_52  (k := ?_)
            rw [lk_cons]
            refine ite_two (fun c => ?_) (fun c => ?_)
            · skip
              refine r_175_96 (hG := hG) (h0 := (by first | omega | (rw [hz] at *; omega) | (simp (disch := omega) only [Zadd_eq, Zsub_eq, Zmul_eq]; omega))) (k := ?_)
              exact k_ _ (by have := hb k; repeat' split <;> omega)
            · skip
              rw [lk_cons]
              refine ite_two (fun c => ?_) (fun c => ?_)
              · skip
                refine r_175_103 (hG := hG) (h0 := (by first | omega | (rw [hz] at *; omega) | (simp (disch := omega) only [Zadd_eq, Zsub_eq, Zmul_eq]; omega))) (k := ?_)
                exact k_ _ (by have := hb k; repeat' split <;> omega)
              · skip
                rw [lk_cons]
                refine ite_two (fun c => ?_) (fun c => ?_)
                · skip
                  refine r_175_110 (hG := hG) (h0 := (by first | omega | (rw [hz] at *; omega) | (simp (disch := omega) only [Zadd_eq, Zsub_eq, Zmul_eq]; omega))) (k := ?_)
                  exact k_ _ (by have := hb k; repeat' split <;> omega)
                · skip
                  rw [lk_cons]
                  refine ite_two (fun c => ?_) (fun c => ?_)
                  · skip
                    refine r_175_117  (ht := fun c => ?_) (hf := fun c => ?_)
                    · skip
                      refine r_175_126 (hG := hG) (h0 := (by first | omega | (rw [hz] at *; omega) | (simp (disch := omega) only [Zadd_eq, Zsub_eq, Zmul_eq]; omega))) (ht := fun c => ?_) (hf := fun c => ?_)
                      · skip
                        refine r_175_139  (k := ?_)
                        exact k_ _ (by have := hb k; repeat' split <;> omega)
                      · skip
                        refine r_175_135  (k := ?_)
                        exact k_ _ (by have := hb k; repeat' split <;> omega)
                    · skip
                      refine r_175_122  (k := ?_)
                      exact k_ _ (by have := hb k; repeat' split <;> omega)
                  · skip
                    rw [lk_cons]
                    refine ite_two (fun c => ?_) (fun c => ?_)
                    · skip
                      refine r_175_141  (ht := fun c => ?_) (hf := fun c => ?_)
                      · skip
                        refine r_175_155  (k := ?_)
                        exact k_ _ (by have := hb k; repeat' split <;> omega)
                      · skip
                        refine r_175_146 (hG := hG) (h0 := (by first | omega | (rw [hz] at *; omega) | (simp (disch := omega) only [Zadd_eq, Zsub_eq, Zmul_eq]; omega))) (k := ?_)
                        exact k_ _ (by have := hb k; repeat' split <;> omega)
                    · skip
                      rw [lk_nil]
                      refine r_175_157  (k := ?_)
                      exact k_ _ (by have := hb k; repeat' split <;> omega)
      · skip
        refine r_175_31  (k := ?_)
        exact k_ _ (by have := hb k; repeat' split <;> omega)
    · dsimp only [Option.toList_some, List.cons_append, List.nil_append]
      refine r_175_18  (ht := fun _ => ?_) (hf := fun c => absurd c (by decide))
      refine r_175_31  (k := ?_)
      exact k_ _ (by have := hb k; repeat' split <;> omega)
  · dsimp only [Option.toList_some, List.cons_append, List.nil_append]
    refine r_175_11  (ht := fun _ => ?_) (hf := fun c => absurd c (by decide))
    refine r_175_31  (k := ?_)
    exact k_ _ (by have := hb k; repeat' split <;> omega)
set_option maxHeartbeats 2000000 in
theorem s_planned {d : Nat} {σ : Mem} {n : Nat} {Q : Pst} {w : Int} (hG : GR σ) (k : ∀ v, v = (if σ 24 7 = 0 then -1 else if w = 0 then σ 24 8 else if w = 1 then σ 24 9 else if w = 2 then σ 24 10 else if w = 3 then σ 24 11 else -1 : Int) → Q (some (0, v)) σ n) : EVM d 100 [(21, 0), (0, w)] σ n Q := by
  show EV d 100 0 [(21, 0), (0, w)] [] σ n Q
  refine r_100_0 (hG := hG) (ht := fun c => ?_) (hf := fun c => ?_)
  · skip
    refine r_100_12  (k := ?_)
    rw [lk_cons]
    refine ite_two (fun c => ?_) (fun c => ?_)
    · skip
      refine r_100_44 (hG := hG) (k := ?_)
      exact k _ (by repeat' split <;> omega)
    · skip
      rw [lk_cons]
      refine ite_two (fun c => ?_) (fun c => ?_)
      · skip
        refine r_100_52 (hG := hG) (k := ?_)
        exact k _ (by repeat' split <;> omega)
      · skip
        rw [lk_cons]
        refine ite_two (fun c => ?_) (fun c => ?_)
        · skip
          refine r_100_60 (hG := hG) (k := ?_)
          exact k _ (by repeat' split <;> omega)
        · skip
          rw [lk_cons]
          refine ite_two (fun c => ?_) (fun c => ?_)
          · skip
            refine r_100_68 (hG := hG) (k := ?_)
            exact k _ (by repeat' split <;> omega)
          · skip
            rw [lk_nil]
            refine r_100_76  (k := ?_)
            exact k _ (by repeat' split <;> omega)
  · skip
    refine r_100_10  (k := ?_)
    exact k _ (by repeat' split <;> omega)
set_option maxHeartbeats 2000000 in
theorem m_planned {d : Nat} {σ : Mem} {n : Nat} {Q : Pst} {w : Int}  (k : ∀ v, v = (if σ 69 37 = 0 then -1 else if w = 0 then σ 69 38 else if w = 1 then σ 69 34 else if w = 2 then σ 69 35 else if w = 3 then σ 69 36 else -1 : Int) → Q (some (0, v)) σ n) : EVM d 155 [(22, 69), (0, w)] σ n Q := by
  show EV d 155 0 [(22, 69), (0, w)] [] σ n Q
  refine r_155_0  (ht := fun c => ?_) (hf := fun c => ?_)
  · skip
    refine r_155_9  (ht := fun c => ?_) (hf := fun c => ?_)
    · skip
      refine r_155_20  (ht := fun c => ?_) (hf := fun c => ?_)
      · skip
        refine r_155_32  (ht := fun c => ?_) (hf := fun c => ?_)
        · skip
          refine r_155_44  (ht := fun c => ?_) (hf := fun c => ?_)
          · skip
            refine r_155_56  (k := ?_)
            exact k _ (by repeat' split <;> omega)
          · skip
            refine r_155_49  (k := ?_)
            exact k _ (by repeat' split <;> omega)
        · skip
          refine r_155_37  (k := ?_)
          exact k _ (by repeat' split <;> omega)
      · skip
        refine r_155_25  (k := ?_)
        exact k _ (by repeat' split <;> omega)
    · skip
      refine r_155_13  (k := ?_)
      exact k _ (by repeat' split <;> omega)
  · skip
    refine r_155_7  (k := ?_)
    exact k _ (by repeat' split <;> omega)
set_option maxHeartbeats 2000000 in
theorem s_turn {d : Nat} {σ : Mem} {n : Nat} {Q : Pst} {h m : Int} (hG : GR σ) (hD : DK σ) (hl : 0 ≤ h ∧ h < σ 14 1 → Zsub (σ (114 + h) 1) 1 = σ (114 + h) 1 - 1) (k : ∀ v, v = (if (0 ≤ h ∧ h < σ 14 1) ∧ 0 ≤ m ∧ m ≤ σ (114 + h) 1 - 1 then (if 90 < σ (114 + h) 1 ∧ Zrem (Zdiv m 30) 2 = 1 then σ (114 + h) 10 else σ (114 + h) 9) else -1 : Int) → Q (some (0, v)) σ n) : EVM (d + 1) 102 [(21, 0), (0, h), (0, m)] σ n Q := by
  show EV (d + 1) 102 0 [(21, 0), (0, h), (0, m), (9, 0), (9, 0)] [] σ n Q
  refine r_102_0 (hG := hG) (k := ?_)
  refine s_dget hG hD (fun c => ?_) (fun c => ?_)
  · dsimp only [Option.toList_some, List.cons_append, List.nil_append]
    refine r_102_8  (ht := fun c => ?_) (hf := fun c => ?_)
    · skip
      refine r_102_27  (k := ?_)
      exact k _ (by first | (repeat' split <;> omega) | (rw [hl (by omega)] at *; repeat' split <;> omega))
    · skip
      refine r_102_13 (h0 := (by first | omega | (simp (disch := omega) only [Zadd_eq, Zsub_eq, Zmul_eq]; omega))) (k := ?_)
      refine s_within (fun c => ?_) (fun c => ?_)
      · dsimp only [Option.toList_some, List.cons_append, List.nil_append]
        refine r_102_24  (ht := fun _ => ?_) (hf := fun c => absurd c (by decide))
        refine r_102_29 (h0 := (by first | omega | (simp (disch := omega) only [Zadd_eq, Zsub_eq, Zmul_eq]; omega))) (k := ?_)
        refine s_isLong (by omega) (fun c => ?_) (fun c => ?_)
        · dsimp only [Option.toList_some, List.cons_append, List.nil_append]
          refine r_102_33  (ht := fun c => absurd c (by decide)) (hf := fun _ => ?_)
          refine r_102_36  (ht := fun c => ?_) (hf := fun c => ?_)
          · skip
            refine r_102_50  (ht := fun c => ?_) (hf := fun c => ?_)
            · skip
              refine r_102_65 (h0 := (by first | omega | (simp (disch := omega) only [Zadd_eq, Zsub_eq, Zmul_eq]; omega))) (k := ?_)
              exact k _ (by first | (repeat' split <;> omega) | (rw [hl (by omega)] at *; repeat' split <;> omega))
            · skip
              refine r_102_58 (h0 := (by first | omega | (simp (disch := omega) only [Zadd_eq, Zsub_eq, Zmul_eq]; omega))) (k := ?_)
              exact k _ (by first | (repeat' split <;> omega) | (rw [hl (by omega)] at *; repeat' split <;> omega))
          · skip
            refine r_102_46  (ht := fun c => ?_) (hf := fun c => ?_)
            · skip
              refine r_102_65 (h0 := (by first | omega | (simp (disch := omega) only [Zadd_eq, Zsub_eq, Zmul_eq]; omega))) (k := ?_)
              exact k _ (by first | (repeat' split <;> omega) | (rw [hl (by omega)] at *; repeat' split <;> omega))
            · skip
              refine r_102_58 (h0 := (by first | omega | (simp (disch := omega) only [Zadd_eq, Zsub_eq, Zmul_eq]; omega))) (k := ?_)
              exact k _ (by first | (repeat' split <;> omega) | (rw [hl (by omega)] at *; repeat' split <;> omega))
        · dsimp only [Option.toList_some, List.cons_append, List.nil_append]
          refine r_102_33  (ht := fun _ => ?_) (hf := fun c => absurd c (by decide))
          refine r_102_50  (ht := fun c => ?_) (hf := fun c => ?_)
          · skip
            refine r_102_65 (h0 := (by first | omega | (simp (disch := omega) only [Zadd_eq, Zsub_eq, Zmul_eq]; omega))) (k := ?_)
            exact k _ (by first | (repeat' split <;> omega) | (rw [hl (by omega)] at *; repeat' split <;> omega))
          · skip
            refine r_102_58 (h0 := (by first | omega | (simp (disch := omega) only [Zadd_eq, Zsub_eq, Zmul_eq]; omega))) (k := ?_)
            exact k _ (by first | (repeat' split <;> omega) | (rw [hl (by omega)] at *; repeat' split <;> omega))
      · dsimp only [Option.toList_some, List.cons_append, List.nil_append]
        refine r_102_24  (ht := fun c => absurd c (by decide)) (hf := fun _ => ?_)
        refine r_102_27  (k := ?_)
        exact k _ (by first | (repeat' split <;> omega) | (rw [hl (by omega)] at *; repeat' split <;> omega))
  · dsimp only [Option.toList_some, List.cons_append, List.nil_append]
    refine r_102_8  (ht := fun c => ?_) (hf := fun c => ?_)
    · skip
      refine r_102_27  (k := ?_)
      exact k _ (by first | (repeat' split <;> omega) | (rw [hl (by omega)] at *; repeat' split <;> omega))
    · skip
      refine r_102_13 (h0 := (by first | omega | (simp (disch := omega) only [Zadd_eq, Zsub_eq, Zmul_eq]; omega))) (k := ?_)
      refine s_within (fun c => ?_) (fun c => ?_)
      · dsimp only [Option.toList_some, List.cons_append, List.nil_append]
        refine r_102_24  (ht := fun _ => ?_) (hf := fun c => absurd c (by decide))
        refine r_102_29 (h0 := (by first | omega | (simp (disch := omega) only [Zadd_eq, Zsub_eq, Zmul_eq]; omega))) (k := ?_)
        refine s_isLong (by omega) (fun c => ?_) (fun c => ?_)
        · dsimp only [Option.toList_some, List.cons_append, List.nil_append]
          refine r_102_33  (ht := fun c => absurd c (by decide)) (hf := fun _ => ?_)
          refine r_102_36  (ht := fun c => ?_) (hf := fun c => ?_)
          · skip
            refine r_102_50  (ht := fun c => ?_) (hf := fun c => ?_)
            · skip
              refine r_102_65 (h0 := (by first | omega | (simp (disch := omega) only [Zadd_eq, Zsub_eq, Zmul_eq]; omega))) (k := ?_)
              exact k _ (by first | (repeat' split <;> omega) | (rw [hl (by omega)] at *; repeat' split <;> omega))
            · skip
              refine r_102_58 (h0 := (by first | omega | (simp (disch := omega) only [Zadd_eq, Zsub_eq, Zmul_eq]; omega))) (k := ?_)
              exact k _ (by first | (repeat' split <;> omega) | (rw [hl (by omega)] at *; repeat' split <;> omega))
          · skip
            refine r_102_46  (ht := fun c => ?_) (hf := fun c => ?_)
            · skip
              refine r_102_65 (h0 := (by first | omega | (simp (disch := omega) only [Zadd_eq, Zsub_eq, Zmul_eq]; omega))) (k := ?_)
              exact k _ (by first | (repeat' split <;> omega) | (rw [hl (by omega)] at *; repeat' split <;> omega))
            · skip
              refine r_102_58 (h0 := (by first | omega | (simp (disch := omega) only [Zadd_eq, Zsub_eq, Zmul_eq]; omega))) (k := ?_)
              exact k _ (by first | (repeat' split <;> omega) | (rw [hl (by omega)] at *; repeat' split <;> omega))
        · dsimp only [Option.toList_some, List.cons_append, List.nil_append]
          refine r_102_33  (ht := fun _ => ?_) (hf := fun c => absurd c (by decide))
          refine r_102_50  (ht := fun c => ?_) (hf := fun c => ?_)
          · skip
            refine r_102_65 (h0 := (by first | omega | (simp (disch := omega) only [Zadd_eq, Zsub_eq, Zmul_eq]; omega))) (k := ?_)
            exact k _ (by first | (repeat' split <;> omega) | (rw [hl (by omega)] at *; repeat' split <;> omega))
          · skip
            refine r_102_58 (h0 := (by first | omega | (simp (disch := omega) only [Zadd_eq, Zsub_eq, Zmul_eq]; omega))) (k := ?_)
            exact k _ (by first | (repeat' split <;> omega) | (rw [hl (by omega)] at *; repeat' split <;> omega))
      · dsimp only [Option.toList_some, List.cons_append, List.nil_append]
        refine r_102_24  (ht := fun c => absurd c (by decide)) (hf := fun _ => ?_)
        refine r_102_27  (k := ?_)
        exact k _ (by first | (repeat' split <;> omega) | (rw [hl (by omega)] at *; repeat' split <;> omega))
set_option maxHeartbeats 2000000 in
theorem m_turn {d : Nat} {σ : Mem} {n : Nat} {Q : Pst} {h m : Int} (hG : GR σ) (hh : 0 ≤ σ 69 12 ∧ σ 69 12 ≤ 24) (hz : Zsub (σ 69 12) 1 = σ 69 12 - 1) (hl : 0 ≤ h ∧ h < σ 69 12 → Zsub (σ 82 h) 1 = σ 82 h - 1) (k : ∀ v, v = (if (0 ≤ h ∧ h < σ 69 12) ∧ 0 ≤ m ∧ m ≤ σ 82 h - 1 then (if 90 < σ 82 h ∧ Zrem (Zdiv m 30) 2 = 1 then σ 88 h else σ 87 h) else -1 : Int) → Q (some (0, v)) σ n) : EVM (d + 2) 157 [(22, 69), (0, h), (0, m)] σ n Q := by
  show EV (d + 2) 157 0 [(22, 69), (0, h), (0, m)] [] σ n Q
  refine r_157_0  (k := ?_)
  refine m_isHearing (fun c => ?_) (fun c => ?_)
  · dsimp only [Option.toList_some, List.cons_append, List.nil_append]
    refine r_157_5  (ht := fun c => absurd c (by decide)) (hf := fun _ => ?_)
    refine r_157_8 (hG := hG) (h0 := (by first | omega | (rw [hz] at *; omega) | (simp (disch := omega) only [Zadd_eq, Zsub_eq, Zmul_eq]; omega))) (k := ?_)
    refine m_in (fun c => ?_) (fun c => ?_)
    · dsimp only [Option.toList_some, List.cons_append, List.nil_append]
      refine r_157_21  (ht := fun _ => ?_) (hf := fun c => absurd c (by decide))
      refine r_157_26 (hG := hG) (h0 := (by first | omega | (rw [hz] at *; omega) | (simp (disch := omega) only [Zadd_eq, Zsub_eq, Zmul_eq]; omega))) (ht := fun c => ?_) (hf := fun c => ?_)
      · skip
        refine r_157_56 (hG := hG) (h0 := (by first | omega | (rw [hz] at *; omega) | (simp (disch := omega) only [Zadd_eq, Zsub_eq, Zmul_eq]; omega))) (k := ?_)
        exact k _ (by first | (repeat' split <;> omega) | (rw [hl (by omega)] at *; repeat' split <;> omega))
      · skip
        refine r_157_37  (ht := fun c => ?_) (hf := fun c => ?_)
        · skip
          refine r_157_56 (hG := hG) (h0 := (by first | omega | (rw [hz] at *; omega) | (simp (disch := omega) only [Zadd_eq, Zsub_eq, Zmul_eq]; omega))) (k := ?_)
          exact k _ (by first | (repeat' split <;> omega) | (rw [hl (by omega)] at *; repeat' split <;> omega))
        · skip
          refine r_157_47 (hG := hG) (h0 := (by first | omega | (rw [hz] at *; omega) | (simp (disch := omega) only [Zadd_eq, Zsub_eq, Zmul_eq]; omega))) (k := ?_)
          exact k _ (by first | (repeat' split <;> omega) | (rw [hl (by omega)] at *; repeat' split <;> omega))
    · dsimp only [Option.toList_some, List.cons_append, List.nil_append]
      refine r_157_21  (ht := fun c => absurd c (by decide)) (hf := fun _ => ?_)
      refine r_157_24  (k := ?_)
      exact k _ (by first | (repeat' split <;> omega) | (rw [hl (by omega)] at *; repeat' split <;> omega))
  · dsimp only [Option.toList_some, List.cons_append, List.nil_append]
    refine r_157_5  (ht := fun _ => ?_) (hf := fun c => absurd c (by decide))
    refine r_157_24  (k := ?_)
    exact k _ (by first | (repeat' split <;> omega) | (rw [hl (by omega)] at *; repeat' split <;> omega))
set_option maxHeartbeats 2000000 in
theorem s_cancel {d : Nat} {σ : Mem} {n : Nat} {Q : Pst} {h a : Int} (hG : GR σ) (hD : DK σ) (hv : (0 ≤ h ∧ h < σ 14 1) ∧ σ (114 + h) 7 = 0 ∧ (0 ≤ a ∧ a ≤ 100000) → Q (some (0, 1)) (wrM (wrM σ (114 + h) 7 1) (114 + h) 8 a) n) (hn : ¬ ((0 ≤ h ∧ h < σ 14 1) ∧ σ (114 + h) 7 = 0 ∧ (0 ≤ a ∧ a ≤ 100000)) → Q (some (0, 0)) σ n) : EVM (d + 1) 96 [(21, 0), (0, h), (0, a)] σ n Q := by
  show EV (d + 1) 96 0 [(21, 0), (0, h), (0, a), (9, 0)] [] σ n Q
  refine r_96_0 (hG := hG) (k := ?_)
  refine s_dget hG hD (fun c => ?_) (fun c => ?_)
  · dsimp only [Option.toList_some, List.cons_append, List.nil_append]
    refine r_96_8  (ht := fun c => ?_) (hf := fun c => ?_)
    · skip
      refine r_96_30  (k := ?_)
      (first | exact hn (by omega) | exact hv (by omega) | (exfalso; omega))
    · skip
      refine r_96_13 (h0 := (by first | omega | (simp (disch := omega) only [Zadd_eq, Zsub_eq, Zmul_eq]; omega))) (ht := fun c => ?_) (hf := fun c => ?_)
      · skip
        refine r_96_30  (k := ?_)
        (first | exact hn (by omega) | exact hv (by omega) | (exfalso; omega))
      · skip
        refine r_96_20  (k := ?_)
        refine s_within (fun c => ?_) (fun c => ?_)
        · dsimp only [Option.toList_some, List.cons_append, List.nil_append]
          refine r_96_27  (ht := fun _ => ?_) (hf := fun c => absurd c (by decide))
          refine r_96_32 (h0 := (by first | omega | (simp (disch := omega) only [Zadd_eq, Zsub_eq, Zmul_eq]; omega))) (k := ?_)
          (first | exact hn (by omega) | exact hv (by omega) | (exfalso; omega))
        · dsimp only [Option.toList_some, List.cons_append, List.nil_append]
          refine r_96_27  (ht := fun c => absurd c (by decide)) (hf := fun _ => ?_)
          refine r_96_30  (k := ?_)
          (first | exact hn (by omega) | exact hv (by omega) | (exfalso; omega))
  · dsimp only [Option.toList_some, List.cons_append, List.nil_append]
    refine r_96_8  (ht := fun c => ?_) (hf := fun c => ?_)
    · skip
      refine r_96_30  (k := ?_)
      (first | exact hn (by omega) | exact hv (by omega) | (exfalso; omega))
    · skip
      refine r_96_13 (h0 := (by first | omega | (simp (disch := omega) only [Zadd_eq, Zsub_eq, Zmul_eq]; omega))) (ht := fun c => ?_) (hf := fun c => ?_)
      · skip
        refine r_96_30  (k := ?_)
        (first | exact hn (by omega) | exact hv (by omega) | (exfalso; omega))
      · skip
        refine r_96_20  (k := ?_)
        refine s_within (fun c => ?_) (fun c => ?_)
        · dsimp only [Option.toList_some, List.cons_append, List.nil_append]
          refine r_96_27  (ht := fun _ => ?_) (hf := fun c => absurd c (by decide))
          refine r_96_32 (h0 := (by first | omega | (simp (disch := omega) only [Zadd_eq, Zsub_eq, Zmul_eq]; omega))) (k := ?_)
          (first | exact hn (by omega) | exact hv (by omega) | (exfalso; omega))
        · dsimp only [Option.toList_some, List.cons_append, List.nil_append]
          refine r_96_27  (ht := fun c => absurd c (by decide)) (hf := fun _ => ?_)
          refine r_96_30  (k := ?_)
          (first | exact hn (by omega) | exact hv (by omega) | (exfalso; omega))
set_option maxHeartbeats 2000000 in
theorem m_cancel {d : Nat} {σ : Mem} {n : Nat} {Q : Pst} {h a : Int} (hG : GR σ) (hh : 0 ≤ σ 69 12 ∧ σ 69 12 ≤ 24) (hz : Zsub (σ 69 12) 1 = σ 69 12 - 1) (hv : (0 ≤ h ∧ h < σ 69 12) ∧ σ 86 h < 0 ∧ (0 ≤ a ∧ a ≤ 100000) → Q (some (0, 1)) (wrM σ 86 h a) n) (hn : ¬ ((0 ≤ h ∧ h < σ 69 12) ∧ σ 86 h < 0 ∧ (0 ≤ a ∧ a ≤ 100000)) → Q (some (0, 0)) σ n) : EVM (d + 2) 138 [(22, 69), (0, h), (0, a)] σ n Q := by
  show EV (d + 2) 138 0 [(22, 69), (0, h), (0, a)] [] σ n Q
  refine r_138_0  (k := ?_)
  refine m_isHearing (fun c => ?_) (fun c => ?_)
  · dsimp only [Option.toList_some, List.cons_append, List.nil_append]
    refine r_138_5  (ht := fun c => absurd c (by decide)) (hf := fun _ => ?_)
    refine r_138_8 (hG := hG) (h0 := (by first | omega | (rw [hz] at *; omega) | (simp (disch := omega) only [Zadd_eq, Zsub_eq, Zmul_eq]; omega))) (ht := fun c => ?_) (hf := fun c => ?_)
    · skip
      refine r_138_27  (k := ?_)
      (first | exact hn (by omega) | exact hv (by omega) | (exfalso; omega))
    · skip
      refine r_138_17  (k := ?_)
      refine m_in (fun c => ?_) (fun c => ?_)
      · dsimp only [Option.toList_some, List.cons_append, List.nil_append]
        refine r_138_24  (ht := fun _ => ?_) (hf := fun c => absurd c (by decide))
        refine r_138_29 (hG := hG) (h0 := (by first | omega | (rw [hz] at *; omega) | (simp (disch := omega) only [Zadd_eq, Zsub_eq, Zmul_eq]; omega))) (k := ?_)
        (first | exact hn (by omega) | exact hv (by omega) | (exfalso; omega))
      · dsimp only [Option.toList_some, List.cons_append, List.nil_append]
        refine r_138_24  (ht := fun c => absurd c (by decide)) (hf := fun _ => ?_)
        refine r_138_27  (k := ?_)
        (first | exact hn (by omega) | exact hv (by omega) | (exfalso; omega))
  · dsimp only [Option.toList_some, List.cons_append, List.nil_append]
    refine r_138_5  (ht := fun _ => ?_) (hf := fun c => absurd c (by decide))
    refine r_138_27  (k := ?_)
    (first | exact hn (by omega) | exact hv (by omega) | (exfalso; omega))
set_option maxHeartbeats 2000000 in
theorem s_isSpan {d : Nat} {σ : Mem} {n : Nat} {Q : Pst} {y b l : Int}  (ht : (0 ≤ y ∧ y ≤ 999) ∧ (0 ≤ b ∧ b ≤ 1439) ∧ (10 ≤ l ∧ l ≤ 240) ∧ b + l ≤ 1440 → Q (some (0, 1)) σ n) (hf : ¬ ((0 ≤ y ∧ y ≤ 999) ∧ (0 ≤ b ∧ b ≤ 1439) ∧ (10 ≤ l ∧ l ≤ 240) ∧ b + l ≤ 1440) → Q (some (0, 0)) σ n) : EVM (d + 2) 120 [(0, y), (0, b), (0, l)] σ n Q := by
  show EV (d + 2) 120 0 [(0, y), (0, b), (0, l)] [] σ n Q
  refine r_120_0  (k := ?_)
  refine s_isDay (fun c => ?_) (fun c => ?_)
  · dsimp only [Option.toList_some, List.cons_append, List.nil_append]
    refine r_120_4  (ht := fun c => absurd c (by decide)) (hf := fun _ => ?_)
    refine r_120_7  (k := ?_)
    refine s_within (fun c => ?_) (fun c => ?_)
    · dsimp only [Option.toList_some, List.cons_append, List.nil_append]
      refine r_120_15  (ht := fun c => absurd c (by decide)) (hf := fun _ => ?_)
      refine r_120_18  (k := ?_)
      refine s_within (fun c => ?_) (fun c => ?_)
      · dsimp only [Option.toList_some, List.cons_append, List.nil_append]
        refine r_120_27  (ht := fun c => absurd c (by decide)) (hf := fun _ => ?_)
        refine r_120_30  (ht := fun c => ?_) (hf := fun c => ?_)
        · skip
          refine r_120_43  (k := ?_)
          (first | exact ht (by omega) | exact hf (by omega) | (rw [Zadd_eq (by omega) (by omega)] at *; first | exact ht (by omega) | exact hf (by omega)))
        · skip
          refine r_120_39  (k := ?_)
          (first | exact ht (by omega) | exact hf (by omega) | (rw [Zadd_eq (by omega) (by omega)] at *; first | exact ht (by omega) | exact hf (by omega)))
      · dsimp only [Option.toList_some, List.cons_append, List.nil_append]
        refine r_120_27  (ht := fun _ => ?_) (hf := fun c => absurd c (by decide))
        refine r_120_43  (k := ?_)
        (first | exact ht (by omega) | exact hf (by omega) | (rw [Zadd_eq (by omega) (by omega)] at *; first | exact ht (by omega) | exact hf (by omega)))
    · dsimp only [Option.toList_some, List.cons_append, List.nil_append]
      refine r_120_15  (ht := fun _ => ?_) (hf := fun c => absurd c (by decide))
      refine r_120_43  (k := ?_)
      (first | exact ht (by omega) | exact hf (by omega) | (rw [Zadd_eq (by omega) (by omega)] at *; first | exact ht (by omega) | exact hf (by omega)))
  · dsimp only [Option.toList_some, List.cons_append, List.nil_append]
    refine r_120_4  (ht := fun _ => ?_) (hf := fun c => absurd c (by decide))
    refine r_120_43  (k := ?_)
    (first | exact ht (by omega) | exact hf (by omega) | (rw [Zadd_eq (by omega) (by omega)] at *; first | exact ht (by omega) | exact hf (by omega)))
