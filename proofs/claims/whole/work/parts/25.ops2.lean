/-! papers, bars, seats, those asked -/
theorem Zznar_01 {x : Int} (h : x = 0 ∨ x = 1) : Zznar x = x := by
  rcases h with rfl | rfl <;> decide
/-- the docket: its hearings are the cells from 114 on -/
def DK (σ : Mem) : Prop := 0 ≤ σ 14 1 ∧ σ 14 1 ≤ 24 ∧ ∀ i, 0 ≤ i → i < σ 14 1 → σ 15 i = 114 + i
set_option maxHeartbeats 2000000 in
theorem s_paadd {d : Nat} {σ : Mem} {n : Nat} {Q : Pst} {p t g f l : Int} (hG : GR σ) (hs : 0 ≤ σ 6 7 ∧ σ 6 7 ≤ 40) (hv : σ 6 7 < 40 → Q (some (0, σ 6 7)) (wrM (wrM (wrM (wrM (wrM (wrM σ 8 (σ 6 7) p) 9 (σ 6 7) t) 10 (σ 6 7) g) 11 (σ 6 7) f) 12 (σ 6 7) l) 6 7 (σ 6 7 + 1)) n) (hn : ¬ σ 6 7 < 40 → Q (some (0, -1)) σ n) : EVM d 30 [(15, 6), (0, p), (0, t), (0, g), (0, f), (0, l)] σ n Q := by
  show EV d 30 0 [(15, 6), (0, p), (0, t), (0, g), (0, f), (0, l)] [] σ n Q
  refine r_30_0  (ht := fun c => ?_) (hf := fun c => ?_)
  · skip
    refine r_30_11 (hG := hG) (h0 := (by first | omega | (simp (disch := omega) only [Zadd_eq, Zsub_eq, Zmul_eq]; omega))) (k := ?_)
    (first | exact hn (by omega) | (rw [Zadd_eq (by omega) (by omega), Zsub_eq (by omega) (by omega), Int.add_sub_cancel]; exact hv (by omega)))
  · skip
    refine r_30_9  (k := ?_)
    (first | exact hn (by omega) | (rw [Zadd_eq (by omega) (by omega), Zsub_eq (by omega) (by omega), Int.add_sub_cancel]; exact hv (by omega)))
set_option maxHeartbeats 2000000 in
theorem s_paper {d : Nat} {σ : Mem} {n : Nat} {Q : Pst} {p t g f l : Int} (hG : GR σ) (hs : 0 ≤ σ 6 7 ∧ σ 6 7 ≤ 40) (hv : (0 ≤ p ∧ p < σ 3 2 ∧ p < 5) ∧ (0 ≤ t ∧ t ≤ 9) ∧ (1 ≤ g ∧ g ≤ 5) ∧ (0 ≤ f ∧ f ≤ 999) ∧ (0 ≤ l ∧ l ≤ 999) ∧ f ≤ l ∧ σ 6 7 < 40 → Q (some (0, σ 6 7)) (wrM (wrM (wrM (wrM (wrM (wrM σ 8 (σ 6 7) p) 9 (σ 6 7) t) 10 (σ 6 7) g) 11 (σ 6 7) f) 12 (σ 6 7) l) 6 7 (σ 6 7 + 1)) n) (hn : ¬ ((0 ≤ p ∧ p < σ 3 2 ∧ p < 5) ∧ (0 ≤ t ∧ t ≤ 9) ∧ (1 ≤ g ∧ g ≤ 5) ∧ (0 ≤ f ∧ f ≤ 999) ∧ (0 ≤ l ∧ l ≤ 999) ∧ f ≤ l ∧ σ 6 7 < 40) → Q (some (0, -1)) σ n) : EVM (d + 2) 89 [(21, 0), (0, p), (0, t), (0, g), (0, f), (0, l)] σ n Q := by
  show EV (d + 2) 89 0 [(21, 0), (0, p), (0, t), (0, g), (0, f), (0, l), (9, 0)] [] σ n Q
  refine r_89_0 (hG := hG) (k := ?_)
  refine s_has (fun c => ?_) (fun c => ?_)
  · dsimp only [Option.toList_some, List.cons_append, List.nil_append]
    refine r_89_8  (ht := fun c => absurd c (by decide)) (hf := fun _ => ?_)
    refine r_89_11  (k := ?_)
    refine s_isTongue (fun c => ?_) (fun c => ?_)
    · dsimp only [Option.toList_some, List.cons_append, List.nil_append]
      refine r_89_15  (ht := fun c => absurd c (by decide)) (hf := fun _ => ?_)
      refine r_89_18  (k := ?_)
      refine s_isGrade (fun c => ?_) (fun c => ?_)
      · dsimp only [Option.toList_some, List.cons_append, List.nil_append]
        refine r_89_22  (ht := fun c => absurd c (by decide)) (hf := fun _ => ?_)
        refine r_89_25  (k := ?_)
        refine s_isDay (fun c => ?_) (fun c => ?_)
        · dsimp only [Option.toList_some, List.cons_append, List.nil_append]
          refine r_89_30  (ht := fun c => absurd c (by decide)) (hf := fun _ => ?_)
          refine r_89_33  (k := ?_)
          refine s_isDay (fun c => ?_) (fun c => ?_)
          · dsimp only [Option.toList_some, List.cons_append, List.nil_append]
            refine r_89_38  (ht := fun c => absurd c (by decide)) (hf := fun _ => ?_)
            refine r_89_41  (ht := fun c => ?_) (hf := fun c => ?_)
            · skip
              refine r_89_52  (ht := fun c => ?_) (hf := fun c => ?_)
              · skip
                refine r_89_77  (k := ?_)
                (first | exact hn (by omega) | exact hv (by omega) | (exfalso; omega))
              · skip
                refine r_89_60 (hG := hG) (k := ?_)
                refine s_paadd hG hs (fun c => ?_) (fun c => ?_)
                · dsimp only [Option.toList_some, List.cons_append, List.nil_append]
                  refine r_89_74  (k := ?_)
                  (first | exact hn (by omega) | exact hv (by omega) | (exfalso; omega))
                · dsimp only [Option.toList_some, List.cons_append, List.nil_append]
                  refine r_89_74  (k := ?_)
                  (first | exact hn (by omega) | exact hv (by omega) | (exfalso; omega))
            · skip
              refine r_89_48  (ht := fun c => ?_) (hf := fun c => ?_)
              · skip
                refine r_89_77  (k := ?_)
                (first | exact hn (by omega) | exact hv (by omega) | (exfalso; omega))
              · skip
                refine r_89_60 (hG := hG) (k := ?_)
                refine s_paadd hG hs (fun c => ?_) (fun c => ?_)
                · dsimp only [Option.toList_some, List.cons_append, List.nil_append]
                  refine r_89_74  (k := ?_)
                  (first | exact hn (by omega) | exact hv (by omega) | (exfalso; omega))
                · dsimp only [Option.toList_some, List.cons_append, List.nil_append]
                  refine r_89_74  (k := ?_)
                  (first | exact hn (by omega) | exact hv (by omega) | (exfalso; omega))
          · dsimp only [Option.toList_some, List.cons_append, List.nil_append]
            refine r_89_38  (ht := fun _ => ?_) (hf := fun c => absurd c (by decide))
            refine r_89_52  (ht := fun c => ?_) (hf := fun c => ?_)
            · skip
              refine r_89_77  (k := ?_)
              (first | exact hn (by omega) | exact hv (by omega) | (exfalso; omega))
            · skip
              refine r_89_60 (hG := hG) (k := ?_)
              refine s_paadd hG hs (fun c => ?_) (fun c => ?_)
              · dsimp only [Option.toList_some, List.cons_append, List.nil_append]
                refine r_89_74  (k := ?_)
                (first | exact hn (by omega) | exact hv (by omega) | (exfalso; omega))
              · dsimp only [Option.toList_some, List.cons_append, List.nil_append]
                refine r_89_74  (k := ?_)
                (first | exact hn (by omega) | exact hv (by omega) | (exfalso; omega))
        · dsimp only [Option.toList_some, List.cons_append, List.nil_append]
          refine r_89_30  (ht := fun _ => ?_) (hf := fun c => absurd c (by decide))
          refine r_89_52  (ht := fun c => ?_) (hf := fun c => ?_)
          · skip
            refine r_89_77  (k := ?_)
            (first | exact hn (by omega) | exact hv (by omega) | (exfalso; omega))
          · skip
            refine r_89_60 (hG := hG) (k := ?_)
            refine s_paadd hG hs (fun c => ?_) (fun c => ?_)
            · dsimp only [Option.toList_some, List.cons_append, List.nil_append]
              refine r_89_74  (k := ?_)
              (first | exact hn (by omega) | exact hv (by omega) | (exfalso; omega))
            · dsimp only [Option.toList_some, List.cons_append, List.nil_append]
              refine r_89_74  (k := ?_)
              (first | exact hn (by omega) | exact hv (by omega) | (exfalso; omega))
      · dsimp only [Option.toList_some, List.cons_append, List.nil_append]
        refine r_89_22  (ht := fun _ => ?_) (hf := fun c => absurd c (by decide))
        refine r_89_52  (ht := fun c => ?_) (hf := fun c => ?_)
        · skip
          refine r_89_77  (k := ?_)
          (first | exact hn (by omega) | exact hv (by omega) | (exfalso; omega))
        · skip
          refine r_89_60 (hG := hG) (k := ?_)
          refine s_paadd hG hs (fun c => ?_) (fun c => ?_)
          · dsimp only [Option.toList_some, List.cons_append, List.nil_append]
            refine r_89_74  (k := ?_)
            (first | exact hn (by omega) | exact hv (by omega) | (exfalso; omega))
          · dsimp only [Option.toList_some, List.cons_append, List.nil_append]
            refine r_89_74  (k := ?_)
            (first | exact hn (by omega) | exact hv (by omega) | (exfalso; omega))
    · dsimp only [Option.toList_some, List.cons_append, List.nil_append]
      refine r_89_15  (ht := fun _ => ?_) (hf := fun c => absurd c (by decide))
      refine r_89_52  (ht := fun c => ?_) (hf := fun c => ?_)
      · skip
        refine r_89_77  (k := ?_)
        (first | exact hn (by omega) | exact hv (by omega) | (exfalso; omega))
      · skip
        refine r_89_60 (hG := hG) (k := ?_)
        refine s_paadd hG hs (fun c => ?_) (fun c => ?_)
        · dsimp only [Option.toList_some, List.cons_append, List.nil_append]
          refine r_89_74  (k := ?_)
          (first | exact hn (by omega) | exact hv (by omega) | (exfalso; omega))
        · dsimp only [Option.toList_some, List.cons_append, List.nil_append]
          refine r_89_74  (k := ?_)
          (first | exact hn (by omega) | exact hv (by omega) | (exfalso; omega))
  · dsimp only [Option.toList_some, List.cons_append, List.nil_append]
    refine r_89_8  (ht := fun _ => ?_) (hf := fun c => absurd c (by decide))
    refine r_89_52  (ht := fun c => ?_) (hf := fun c => ?_)
    · skip
      refine r_89_77  (k := ?_)
      (first | exact hn (by omega) | exact hv (by omega) | (exfalso; omega))
    · skip
      refine r_89_60 (hG := hG) (k := ?_)
      refine s_paadd hG hs (fun c => ?_) (fun c => ?_)
      · dsimp only [Option.toList_some, List.cons_append, List.nil_append]
        refine r_89_74  (k := ?_)
        (first | exact hn (by omega) | exact hv (by omega) | (exfalso; omega))
      · dsimp only [Option.toList_some, List.cons_append, List.nil_append]
        refine r_89_74  (k := ?_)
        (first | exact hn (by omega) | exact hv (by omega) | (exfalso; omega))
set_option maxHeartbeats 2000000 in
theorem m_paper {d : Nat} {σ : Mem} {n : Nat} {Q : Pst} {p t g f l : Int} (hG : GR σ) (hs : 0 ≤ σ 69 4 ∧ σ 69 4 ≤ 40) (hp : 0 ≤ σ 69 2 ∧ σ 69 2 ≤ 5) (hz : Zsub (σ 69 2) 1 = σ 69 2 - 1) (hv : (0 ≤ p ∧ p < σ 69 2) ∧ (0 ≤ t ∧ t ≤ 9) ∧ (1 ≤ g ∧ g ≤ 5) ∧ (0 ≤ f ∧ f ≤ 999) ∧ (0 ≤ l ∧ l ≤ 999) ∧ f ≤ l ∧ σ 69 4 < 40 → Q (some (0, σ 69 4)) (wrM (wrM (wrM (wrM (wrM (wrM σ 73 (σ 69 4) p) 74 (σ 69 4) t) 75 (σ 69 4) g) 76 (σ 69 4) f) 77 (σ 69 4) l) 69 4 (σ 69 4 + 1)) n) (hn : ¬ ((0 ≤ p ∧ p < σ 69 2) ∧ (0 ≤ t ∧ t ≤ 9) ∧ (1 ≤ g ∧ g ≤ 5) ∧ (0 ≤ f ∧ f ≤ 999) ∧ (0 ≤ l ∧ l ≤ 999) ∧ f ≤ l ∧ σ 69 4 < 40) → Q (some (0, -1)) σ n) : EVM (d + 2) 128 [(22, 69), (0, p), (0, t), (0, g), (0, f), (0, l)] σ n Q := by
  show EV (d + 2) 128 0 [(22, 69), (0, p), (0, t), (0, g), (0, f), (0, l)] [] σ n Q
  refine r_128_0  (ht := fun c => ?_) (hf := fun c => ?_)
  · skip
    refine r_128_59  (k := ?_)
    (first | exact hn (by omega) | (rw [Zadd_eq (by omega) (by omega), Zsub_eq (by omega) (by omega), Int.add_sub_cancel]; exact hv (by omega)))
  · skip
    refine r_128_9  (k := ?_)
    refine m_isPerson (fun c => ?_) (fun c => ?_)
    · dsimp only [Option.toList_some, List.cons_append, List.nil_append]
      refine r_128_14  (ht := fun c => absurd c (by decide)) (hf := fun _ => ?_)
      refine r_128_17  (k := ?_)
      refine m_in (fun c => ?_) (fun c => ?_)
      · dsimp only [Option.toList_some, List.cons_append, List.nil_append]
        refine r_128_24  (ht := fun c => absurd c (by decide)) (hf := fun _ => ?_)
        refine r_128_27  (k := ?_)
        refine m_in (fun c => ?_) (fun c => ?_)
        · dsimp only [Option.toList_some, List.cons_append, List.nil_append]
          refine r_128_33  (ht := fun c => absurd c (by decide)) (hf := fun _ => ?_)
          refine r_128_36  (k := ?_)
          refine m_isDay (fun c => ?_) (fun c => ?_)
          · dsimp only [Option.toList_some, List.cons_append, List.nil_append]
            refine r_128_41  (ht := fun c => absurd c (by decide)) (hf := fun _ => ?_)
            refine r_128_44  (k := ?_)
            refine m_isDay (fun c => ?_) (fun c => ?_)
            · dsimp only [Option.toList_some, List.cons_append, List.nil_append]
              refine r_128_49  (ht := fun c => absurd c (by decide)) (hf := fun _ => ?_)
              refine r_128_52  (ht := fun c => ?_) (hf := fun c => ?_)
              · skip
                refine r_128_61 (hG := hG) (h0 := (by first | omega | (simp (disch := omega) only [Zadd_eq, Zsub_eq, Zmul_eq]; omega))) (k := ?_)
                (first | exact hn (by omega) | (rw [Zadd_eq (by omega) (by omega), Zsub_eq (by omega) (by omega), Int.add_sub_cancel]; exact hv (by omega)))
              · skip
                refine r_128_59  (k := ?_)
                (first | exact hn (by omega) | (rw [Zadd_eq (by omega) (by omega), Zsub_eq (by omega) (by omega), Int.add_sub_cancel]; exact hv (by omega)))
            · dsimp only [Option.toList_some, List.cons_append, List.nil_append]
              refine r_128_49  (ht := fun _ => ?_) (hf := fun c => absurd c (by decide))
              refine r_128_59  (k := ?_)
              (first | exact hn (by omega) | (rw [Zadd_eq (by omega) (by omega), Zsub_eq (by omega) (by omega), Int.add_sub_cancel]; exact hv (by omega)))
          · dsimp only [Option.toList_some, List.cons_append, List.nil_append]
            refine r_128_41  (ht := fun _ => ?_) (hf := fun c => absurd c (by decide))
            refine r_128_59  (k := ?_)
            (first | exact hn (by omega) | (rw [Zadd_eq (by omega) (by omega), Zsub_eq (by omega) (by omega), Int.add_sub_cancel]; exact hv (by omega)))
        · dsimp only [Option.toList_some, List.cons_append, List.nil_append]
          refine r_128_33  (ht := fun _ => ?_) (hf := fun c => absurd c (by decide))
          refine r_128_59  (k := ?_)
          (first | exact hn (by omega) | (rw [Zadd_eq (by omega) (by omega), Zsub_eq (by omega) (by omega), Int.add_sub_cancel]; exact hv (by omega)))
      · dsimp only [Option.toList_some, List.cons_append, List.nil_append]
        refine r_128_24  (ht := fun _ => ?_) (hf := fun c => absurd c (by decide))
        refine r_128_59  (k := ?_)
        (first | exact hn (by omega) | (rw [Zadd_eq (by omega) (by omega), Zsub_eq (by omega) (by omega), Int.add_sub_cancel]; exact hv (by omega)))
    · dsimp only [Option.toList_some, List.cons_append, List.nil_append]
      refine r_128_14  (ht := fun _ => ?_) (hf := fun c => absurd c (by decide))
      refine r_128_59  (k := ?_)
      (first | exact hn (by omega) | (rw [Zadd_eq (by omega) (by omega), Zsub_eq (by omega) (by omega), Int.add_sub_cancel]; exact hv (by omega)))
set_option maxHeartbeats 2000000 in
theorem s_shorten {d : Nat} {σ : Mem} {n : Nat} {Q : Pst} {p l : Int} (hG : GR σ) (hs : 0 ≤ σ 6 7 ∧ σ 6 7 ≤ 40) (hv : 0 ≤ p ∧ p < σ 6 7 → Q (some (0, 1)) (wrM σ 12 p (if l < σ 12 p then l else σ 12 p)) n) (hn : ¬ (0 ≤ p ∧ p < σ 6 7) → Q (some (0, 0)) σ n) : EVM d 31 [(15, 6), (0, p), (0, l)] σ n Q := by
  show EV d 31 0 [(15, 6), (0, p), (0, l)] [] σ n Q
  refine r_31_0  (ht := fun c => ?_) (hf := fun c => ?_)
  · skip
    refine r_31_18  (k := ?_)
    (first | exact hn (by omega) | exact hv (by omega) | (simp (disch := omega) only [Zadd_eq, Zsub_eq, Zmul_eq]; exact hv (by omega)) | (exfalso; omega))
  · skip
    refine r_31_4  (ht := fun c => ?_) (hf := fun c => ?_)
    · skip
      refine r_31_18  (k := ?_)
      (first | exact hn (by omega) | exact hv (by omega) | (simp (disch := omega) only [Zadd_eq, Zsub_eq, Zmul_eq]; exact hv (by omega)) | (exfalso; omega))
    · skip
      refine r_31_12  (ht := fun c => ?_) (hf := fun c => ?_)
      · skip
        refine r_31_20 (hG := hG) (h0 := (by first | omega | (simp (disch := omega) only [Zadd_eq, Zsub_eq, Zmul_eq]; omega))) (k := ?_)
        (first | exact hn (by omega) | exact hv (by omega) | (simp (disch := omega) only [Zadd_eq, Zsub_eq, Zmul_eq]; exact hv (by omega)) | (exfalso; omega))
      · skip
        refine r_31_18  (k := ?_)
        (first | exact hn (by omega) | exact hv (by omega) | (simp (disch := omega) only [Zadd_eq, Zsub_eq, Zmul_eq]; exact hv (by omega)) | (exfalso; omega))
set_option maxHeartbeats 2000000 in
theorem s_withdraw {d : Nat} {σ : Mem} {n : Nat} {Q : Pst} {p l : Int} (hG : GR σ) (hs : 0 ≤ σ 6 7 ∧ σ 6 7 ≤ 40) (hv : 0 ≤ p ∧ p < σ 6 7 ∧ 0 ≤ l ∧ l ≤ 999 → Q (some (0, 1)) (wrM σ 12 p (if l < σ 12 p then l else σ 12 p)) n) (hn : ¬ (0 ≤ p ∧ p < σ 6 7 ∧ 0 ≤ l ∧ l ≤ 999) → Q (some (0, 0)) σ n) : EVM (d + 2) 90 [(21, 0), (0, p), (0, l)] σ n Q := by
  show EV (d + 2) 90 0 [(21, 0), (0, p), (0, l)] [] σ n Q
  refine r_90_0  (k := ?_)
  refine s_isDay (fun c => ?_) (fun c => ?_)
  · dsimp only [Option.toList_some, List.cons_append, List.nil_append]
    refine r_90_4  (ht := fun c => absurd c (by decide)) (hf := fun _ => ?_)
    refine r_90_7 (hG := hG) (k := ?_)
    refine s_shorten hG hs (fun c => ?_) (fun c => ?_)
    · dsimp only [Option.toList_some, List.cons_append, List.nil_append]
      refine r_90_16  (ht := fun c => ?_) (hf := fun c => ?_)
      · skip
        refine r_90_23  (k := ?_)
        (first | exact hn (by omega) | exact hv (by omega) | (simp (disch := omega) only [Zadd_eq, Zsub_eq, Zmul_eq]; exact hv (by omega)) | (exfalso; omega))
      · skip
        refine r_90_19  (k := ?_)
        (first | exact hn (by omega) | exact hv (by omega) | (simp (disch := omega) only [Zadd_eq, Zsub_eq, Zmul_eq]; exact hv (by omega)) | (exfalso; omega))
    · dsimp only [Option.toList_some, List.cons_append, List.nil_append]
      refine r_90_16  (ht := fun c => ?_) (hf := fun c => ?_)
      · skip
        refine r_90_23  (k := ?_)
        (first | exact hn (by omega) | exact hv (by omega) | (simp (disch := omega) only [Zadd_eq, Zsub_eq, Zmul_eq]; exact hv (by omega)) | (exfalso; omega))
      · skip
        refine r_90_19  (k := ?_)
        (first | exact hn (by omega) | exact hv (by omega) | (simp (disch := omega) only [Zadd_eq, Zsub_eq, Zmul_eq]; exact hv (by omega)) | (exfalso; omega))
  · dsimp only [Option.toList_some, List.cons_append, List.nil_append]
    refine r_90_4  (ht := fun _ => ?_) (hf := fun c => absurd c (by decide))
    refine r_90_23  (k := ?_)
    (first | exact hn (by omega) | exact hv (by omega) | (simp (disch := omega) only [Zadd_eq, Zsub_eq, Zmul_eq]; exact hv (by omega)) | (exfalso; omega))
set_option maxHeartbeats 2000000 in
theorem m_withdraw {d : Nat} {σ : Mem} {n : Nat} {Q : Pst} {p l : Int} (hG : GR σ) (hs : 0 ≤ σ 69 4 ∧ σ 69 4 ≤ 40) (hz : Zsub (σ 69 4) 1 = σ 69 4 - 1) (hv : 0 ≤ p ∧ p < σ 69 4 ∧ 0 ≤ l ∧ l ≤ 999 → Q (some (0, 1)) (wrM σ 77 p (if l < σ 77 p then l else σ 77 p)) n) (hn : ¬ (0 ≤ p ∧ p < σ 69 4 ∧ 0 ≤ l ∧ l ≤ 999) → Q (some (0, 0)) σ n) : EVM (d + 2) 129 [(22, 69), (0, p), (0, l)] σ n Q := by
  show EV (d + 2) 129 0 [(22, 69), (0, p), (0, l)] [] σ n Q
  refine r_129_0  (k := ?_)
  refine m_in (fun c => ?_) (fun c => ?_)
  · dsimp only [Option.toList_some, List.cons_append, List.nil_append]
    refine r_129_11  (ht := fun c => absurd c (by decide)) (hf := fun _ => ?_)
    refine r_129_14  (k := ?_)
    refine m_isDay (fun c => ?_) (fun c => ?_)
    · dsimp only [Option.toList_some, List.cons_append, List.nil_append]
      refine r_129_18  (ht := fun _ => ?_) (hf := fun c => absurd c (by decide))
      refine r_129_23 (hG := hG) (h0 := (by have := (show lnF 77 = 40 from by decide); first | omega | (rw [hz] at *; omega))) (ht := fun c => ?_) (hf := fun c => ?_)
      · skip
        refine r_129_47 (h0 := (by have := (show lnF 77 = 40 from by decide); first | omega | (rw [hz] at *; omega))) (h1 := (by have := (show lnF 77 = 40 from by decide); first | omega | (rw [hz] at *; omega))) (k := ?_)
        (first | exact hn (by omega) | (rw [if_neg (by omega)] at hv; exact hv (by omega)) | (rw [show (if l < σ 77 p then l else σ 77 p) = l by split <;> omega] at hv; exact hv (by omega)))
      · skip
        refine r_129_38 (hG := hG) (h0 := (by have := (show lnF 77 = 40 from by decide); first | omega | (rw [hz] at *; omega))) (h1 := (by have := (show lnF 77 = 40 from by decide); first | omega | (rw [hz] at *; omega))) (h2 := (by have := (show lnF 77 = 40 from by decide); first | omega | (rw [hz] at *; omega))) (k := ?_)
        (first | exact hn (by omega) | (rw [if_neg (by omega)] at hv; exact hv (by omega)) | (rw [show (if l < σ 77 p then l else σ 77 p) = l by split <;> omega] at hv; exact hv (by omega)))
    · dsimp only [Option.toList_some, List.cons_append, List.nil_append]
      refine r_129_18  (ht := fun c => absurd c (by decide)) (hf := fun _ => ?_)
      refine r_129_21  (k := ?_)
      (first | exact hn (by omega) | (rw [if_neg (by omega)] at hv; exact hv (by omega)) | (rw [show (if l < σ 77 p then l else σ 77 p) = l by split <;> omega] at hv; exact hv (by omega)))
  · dsimp only [Option.toList_some, List.cons_append, List.nil_append]
    refine r_129_11  (ht := fun _ => ?_) (hf := fun c => absurd c (by decide))
    refine r_129_21  (k := ?_)
    (first | exact hn (by omega) | (rw [if_neg (by omega)] at hv; exact hv (by omega)) | (rw [show (if l < σ 77 p then l else σ 77 p) = l by split <;> omega] at hv; exact hv (by omega)))
set_option maxHeartbeats 2000000 in
theorem s_setBarred {d : Nat} {σ : Mem} {n : Nat} {Q : Pst} {p w b : Int} (hG : GR σ) (hb : b = 0 ∨ b = 1) (hv : (0 ≤ p ∧ p < σ 3 2 ∧ p < 5 ∧ 0 ≤ w ∧ w ≤ 19) ∧ ¬ σ 5 (p * 20 + w) = b → Q (some (0, 1)) (wrM σ 5 (p * 20 + w) b) n) (hn : ¬ ((0 ≤ p ∧ p < σ 3 2 ∧ p < 5 ∧ 0 ≤ w ∧ w ≤ 19) ∧ ¬ σ 5 (p * 20 + w) = b) → Q (some (0, 0)) σ n) : EVM (d + 2) 38 [(16, 3), (0, p), (0, w), (0, b)] σ n Q := by
  show EV (d + 2) 38 0 [(16, 3), (0, p), (0, w), (0, b)] [] σ n Q
  refine r_38_0  (k := ?_)
  refine s_has (fun c => ?_) (fun c => ?_)
  · dsimp only [Option.toList_some, List.cons_append, List.nil_append]
    refine r_38_5  (ht := fun c => absurd c (by decide)) (hf := fun _ => ?_)
    refine r_38_8  (k := ?_)
    refine s_isCase (fun c => ?_) (fun c => ?_)
    · dsimp only [Option.toList_some, List.cons_append, List.nil_append]
      refine r_38_12  (ht := fun c => absurd c (by decide)) (hf := fun _ => ?_)
      refine r_38_15 (hG := hG) (h0 := (by first | omega | (simp (disch := omega) only [Zadd_eq, Zsub_eq, Zmul_eq]; omega))) (ht := fun c => ?_) (hf := fun c => ?_)
      · skip
        refine r_38_32 (hG := hG) (h0 := (by first | omega | (simp (disch := omega) only [Zadd_eq, Zsub_eq, Zmul_eq]; omega))) (k := ?_)
        (first | exact hn (by omega) | (simp (disch := omega) only [Zadd_eq, Zmul_eq] at *; first | exact hn (by omega) | (rw [Zznar_01 hb]; exact hv (by omega))))
      · skip
        refine r_38_30  (k := ?_)
        (first | exact hn (by omega) | (simp (disch := omega) only [Zadd_eq, Zmul_eq] at *; first | exact hn (by omega) | (rw [Zznar_01 hb]; exact hv (by omega))))
    · dsimp only [Option.toList_some, List.cons_append, List.nil_append]
      refine r_38_12  (ht := fun _ => ?_) (hf := fun c => absurd c (by decide))
      refine r_38_30  (k := ?_)
      (first | exact hn (by omega) | (simp (disch := omega) only [Zadd_eq, Zmul_eq] at *; first | exact hn (by omega) | (rw [Zznar_01 hb]; exact hv (by omega))))
  · dsimp only [Option.toList_some, List.cons_append, List.nil_append]
    refine r_38_5  (ht := fun _ => ?_) (hf := fun c => absurd c (by decide))
    refine r_38_30  (k := ?_)
    (first | exact hn (by omega) | (simp (disch := omega) only [Zadd_eq, Zmul_eq] at *; first | exact hn (by omega) | (rw [Zznar_01 hb]; exact hv (by omega))))
set_option maxHeartbeats 2000000 in
theorem s_bar {d : Nat} {σ : Mem} {n : Nat} {Q : Pst} {p w b : Int} (hG : GR σ) (hb : b = 0 ∨ b = 1) (hv : (0 ≤ p ∧ p < σ 3 2 ∧ p < 5 ∧ 0 ≤ w ∧ w ≤ 19) ∧ ¬ σ 5 (p * 20 + w) = b → Q (some (0, 1)) (wrM σ 5 (p * 20 + w) b) n) (hn : ¬ ((0 ≤ p ∧ p < σ 3 2 ∧ p < 5 ∧ 0 ≤ w ∧ w ≤ 19) ∧ ¬ σ 5 (p * 20 + w) = b) → Q (some (0, 0)) σ n) : EVM (d + 3) 92 [(21, 0), (0, p), (0, w), (0, b)] σ n Q := by
  show EV (d + 3) 92 0 [(21, 0), (0, p), (0, w), (0, b)] [] σ n Q
  refine r_92_0 (hG := hG) (k := ?_)
  refine s_has (fun c => ?_) (fun c => ?_)
  · dsimp only [Option.toList_some, List.cons_append, List.nil_append]
    refine r_92_8  (ht := fun c => absurd c (by decide)) (hf := fun _ => ?_)
    refine r_92_11  (k := ?_)
    refine s_isCase (fun c => ?_) (fun c => ?_)
    · dsimp only [Option.toList_some, List.cons_append, List.nil_append]
      refine r_92_15  (ht := fun c => absurd c (by decide)) (hf := fun _ => ?_)
      refine r_92_18 (hG := hG) (k := ?_)
      refine s_setBarred hG hb (fun c => ?_) (fun c => ?_)
      · dsimp only [Option.toList_some, List.cons_append, List.nil_append]
        refine r_92_28  (ht := fun c => ?_) (hf := fun c => ?_)
        · skip
          refine r_92_35  (k := ?_)
          (first | exact hn (by omega) | exact hv (by omega) | (simp (disch := omega) only [Zadd_eq, Zsub_eq, Zmul_eq]; exact hv (by omega)) | (exfalso; omega))
        · skip
          refine r_92_31  (k := ?_)
          (first | exact hn (by omega) | exact hv (by omega) | (simp (disch := omega) only [Zadd_eq, Zsub_eq, Zmul_eq]; exact hv (by omega)) | (exfalso; omega))
      · dsimp only [Option.toList_some, List.cons_append, List.nil_append]
        refine r_92_28  (ht := fun c => ?_) (hf := fun c => ?_)
        · skip
          refine r_92_35  (k := ?_)
          (first | exact hn (by omega) | exact hv (by omega) | (simp (disch := omega) only [Zadd_eq, Zsub_eq, Zmul_eq]; exact hv (by omega)) | (exfalso; omega))
        · skip
          refine r_92_31  (k := ?_)
          (first | exact hn (by omega) | exact hv (by omega) | (simp (disch := omega) only [Zadd_eq, Zsub_eq, Zmul_eq]; exact hv (by omega)) | (exfalso; omega))
    · dsimp only [Option.toList_some, List.cons_append, List.nil_append]
      refine r_92_15  (ht := fun _ => ?_) (hf := fun c => absurd c (by decide))
      refine r_92_35  (k := ?_)
      (first | exact hn (by omega) | exact hv (by omega) | (simp (disch := omega) only [Zadd_eq, Zsub_eq, Zmul_eq]; exact hv (by omega)) | (exfalso; omega))
  · dsimp only [Option.toList_some, List.cons_append, List.nil_append]
    refine r_92_8  (ht := fun _ => ?_) (hf := fun c => absurd c (by decide))
    refine r_92_35  (k := ?_)
    (first | exact hn (by omega) | exact hv (by omega) | (simp (disch := omega) only [Zadd_eq, Zsub_eq, Zmul_eq]; exact hv (by omega)) | (exfalso; omega))
set_option maxHeartbeats 2000000 in
theorem s_dget {d : Nat} {σ : Mem} {n : Nat} {Q : Pst} {x : Int} (hG : GR σ) (hD : DK σ) (hv : 0 ≤ x ∧ x < σ 14 1 → Q (some (13, 114 + x)) σ n) (hn : ¬ (0 ≤ x ∧ x < σ 14 1) → Q (some (13, -1)) σ n) : EVM d 11 [(11, 14), (0, x)] σ n Q := by
  show EV d 11 0 [(11, 14), (0, x)] [] σ n Q
  refine r_11_0  (ht := fun c => ?_) (hf := fun c => ?_)
  · skip
    refine r_11_27  (k := ?_)
    (first | exact hn (by have := hD.1; have := hD.2.1; omega) | (rw [hD.2.2 x (by omega) (by omega)]; exact hv (by omega)))
  · skip
    refine r_11_4  (ht := fun c => ?_) (hf := fun c => ?_)
    · skip
      refine r_11_27  (k := ?_)
      (first | exact hn (by have := hD.1; have := hD.2.1; omega) | (rw [hD.2.2 x (by omega) (by omega)]; exact hv (by omega)))
    · skip
      refine r_11_12  (ht := fun c => ?_) (hf := fun c => ?_)
      · skip
        refine r_11_27  (k := ?_)
        (first | exact hn (by have := hD.1; have := hD.2.1; omega) | (rw [hD.2.2 x (by omega) (by omega)]; exact hv (by omega)))
      · skip
        refine r_11_18 (hG := hG) (h0 := (by have := hD.1; have := hD.2.1; omega)) (k := ?_)
        (first | exact hn (by have := hD.1; have := hD.2.1; omega) | (rw [hD.2.2 x (by omega) (by omega)]; exact hv (by omega)))
set_option maxHeartbeats 2000000 in
theorem s_seat {d : Nat} {σ : Mem} {n : Nat} {Q : Pst} {h w : Int} (hG : GR σ) (hD : DK σ) (hv : 0 ≤ h ∧ h < σ 14 1 ∧ 0 ≤ w ∧ w ≤ 1 → Q (some (0, if w = 0 then σ (114 + h) 9 else σ (114 + h) 10)) σ n) (hn : ¬ (0 ≤ h ∧ h < σ 14 1 ∧ 0 ≤ w ∧ w ≤ 1) → Q (some (0, -1)) σ n) : EVM (d + 1) 101 [(21, 0), (0, h), (0, w)] σ n Q := by
  show EV (d + 1) 101 0 [(21, 0), (0, h), (0, w), (9, 0)] [] σ n Q
  refine r_101_0 (hG := hG) (k := ?_)
  refine s_dget hG hD (fun c => ?_) (fun c => ?_)
  · dsimp only [Option.toList_some, List.cons_append, List.nil_append]
    refine r_101_8  (ht := fun c => ?_) (hf := fun c => ?_)
    · skip
      refine r_101_22  (k := ?_)
      (first | exact hn (by omega) | (rw [if_pos (by omega)] at hv; exact hv (by omega)) | (rw [if_neg (by omega)] at hv; exact hv (by omega)) | (exfalso; omega))
    · skip
      refine r_101_13  (k := ?_)
      refine s_within (fun c => ?_) (fun c => ?_)
      · dsimp only [Option.toList_some, List.cons_append, List.nil_append]
        refine r_101_19  (ht := fun _ => ?_) (hf := fun c => absurd c (by decide))
        refine r_101_24  (ht := fun c => ?_) (hf := fun c => ?_)
        · skip
          refine r_101_35 (h0 := (by first | omega | (simp (disch := omega) only [Zadd_eq, Zsub_eq, Zmul_eq]; omega))) (k := ?_)
          (first | exact hn (by omega) | (rw [if_pos (by omega)] at hv; exact hv (by omega)) | (rw [if_neg (by omega)] at hv; exact hv (by omega)) | (exfalso; omega))
        · skip
          refine r_101_28 (h0 := (by first | omega | (simp (disch := omega) only [Zadd_eq, Zsub_eq, Zmul_eq]; omega))) (k := ?_)
          (first | exact hn (by omega) | (rw [if_pos (by omega)] at hv; exact hv (by omega)) | (rw [if_neg (by omega)] at hv; exact hv (by omega)) | (exfalso; omega))
      · dsimp only [Option.toList_some, List.cons_append, List.nil_append]
        refine r_101_19  (ht := fun c => absurd c (by decide)) (hf := fun _ => ?_)
        refine r_101_22  (k := ?_)
        (first | exact hn (by omega) | (rw [if_pos (by omega)] at hv; exact hv (by omega)) | (rw [if_neg (by omega)] at hv; exact hv (by omega)) | (exfalso; omega))
  · dsimp only [Option.toList_some, List.cons_append, List.nil_append]
    refine r_101_8  (ht := fun c => ?_) (hf := fun c => ?_)
    · skip
      refine r_101_22  (k := ?_)
      (first | exact hn (by omega) | (rw [if_pos (by omega)] at hv; exact hv (by omega)) | (rw [if_neg (by omega)] at hv; exact hv (by omega)) | (exfalso; omega))
    · skip
      refine r_101_13  (k := ?_)
      refine s_within (fun c => ?_) (fun c => ?_)
      · dsimp only [Option.toList_some, List.cons_append, List.nil_append]
        refine r_101_19  (ht := fun _ => ?_) (hf := fun c => absurd c (by decide))
        refine r_101_24  (ht := fun c => ?_) (hf := fun c => ?_)
        · skip
          refine r_101_35 (h0 := (by first | omega | (simp (disch := omega) only [Zadd_eq, Zsub_eq, Zmul_eq]; omega))) (k := ?_)
          (first | exact hn (by omega) | (rw [if_pos (by omega)] at hv; exact hv (by omega)) | (rw [if_neg (by omega)] at hv; exact hv (by omega)) | (exfalso; omega))
        · skip
          refine r_101_28 (h0 := (by first | omega | (simp (disch := omega) only [Zadd_eq, Zsub_eq, Zmul_eq]; omega))) (k := ?_)
          (first | exact hn (by omega) | (rw [if_pos (by omega)] at hv; exact hv (by omega)) | (rw [if_neg (by omega)] at hv; exact hv (by omega)) | (exfalso; omega))
      · dsimp only [Option.toList_some, List.cons_append, List.nil_append]
        refine r_101_19  (ht := fun c => absurd c (by decide)) (hf := fun _ => ?_)
        refine r_101_22  (k := ?_)
        (first | exact hn (by omega) | (rw [if_pos (by omega)] at hv; exact hv (by omega)) | (rw [if_neg (by omega)] at hv; exact hv (by omega)) | (exfalso; omega))
set_option maxHeartbeats 2000000 in
theorem m_seat {d : Nat} {σ : Mem} {n : Nat} {Q : Pst} {h w : Int} (hG : GR σ) (hz : Zsub (σ 69 12) 1 = σ 69 12 - 1) (hh : 0 ≤ σ 69 12 ∧ σ 69 12 ≤ 24) (hv : 0 ≤ h ∧ h < σ 69 12 ∧ 0 ≤ w ∧ w ≤ 1 → Q (some (0, if w = 0 then σ 87 h else σ 88 h)) σ n) (hn : ¬ (0 ≤ h ∧ h < σ 69 12 ∧ 0 ≤ w ∧ w ≤ 1) → Q (some (0, -1)) σ n) : EVM (d + 2) 156 [(22, 69), (0, h), (0, w)] σ n Q := by
  show EV (d + 2) 156 0 [(22, 69), (0, h), (0, w)] [] σ n Q
  refine r_156_0  (k := ?_)
  refine m_isHearing (fun c => ?_) (fun c => ?_)
  · dsimp only [Option.toList_some, List.cons_append, List.nil_append]
    refine r_156_5  (ht := fun _ => ?_) (hf := fun c => absurd c (by decide))
    refine r_156_12  (ht := fun c => ?_) (hf := fun c => ?_)
    · skip
      refine r_156_25  (ht := fun c => ?_) (hf := fun c => ?_)
      · skip
        refine r_156_39  (k := ?_)
        (first | exact hn (by omega) | (rw [if_pos (by omega)] at hv; exact hv (by omega)) | (rw [if_neg (by omega)] at hv; exact hv (by omega)) | (exfalso; omega))
      · skip
        refine r_156_30 (hG := hG) (h0 := (by first | omega | (simp (disch := omega) only [Zadd_eq, Zsub_eq, Zmul_eq]; omega))) (k := ?_)
        (first | exact hn (by omega) | (rw [if_pos (by omega)] at hv; exact hv (by omega)) | (rw [if_neg (by omega)] at hv; exact hv (by omega)) | (exfalso; omega))
    · skip
      refine r_156_16 (hG := hG) (h0 := (by first | omega | (simp (disch := omega) only [Zadd_eq, Zsub_eq, Zmul_eq]; omega))) (k := ?_)
      (first | exact hn (by omega) | (rw [if_pos (by omega)] at hv; exact hv (by omega)) | (rw [if_neg (by omega)] at hv; exact hv (by omega)) | (exfalso; omega))
  · dsimp only [Option.toList_some, List.cons_append, List.nil_append]
    refine r_156_5  (ht := fun c => absurd c (by decide)) (hf := fun _ => ?_)
    refine r_156_8  (k := ?_)
    (first | exact hn (by omega) | (rw [if_pos (by omega)] at hv; exact hv (by omega)) | (rw [if_neg (by omega)] at hv; exact hv (by omega)) | (exfalso; omega))
set_option maxHeartbeats 2000000 in
theorem s_iadd {d : Nat} {σ : Mem} {n : Nat} {Q : Pst} {h p y : Int} (hG : GR σ) (hs : 0 ≤ σ 52 6 ∧ σ 52 6 ≤ 60) (hz : Zsub (σ 52 6) 1 = σ 52 6 - 1) (hv : σ 52 6 < 60 ∧ ¬ (0 < σ 52 6 ∧ y < σ 55 (σ 52 6 - 1)) → Q (some (0, σ 52 6)) (wrM (wrM (wrM (wrM (wrM σ 53 (σ 52 6) h) 54 (σ 52 6) p) 55 (σ 52 6) y) 58 (σ 52 6) (-1)) 52 6 (σ 52 6 + 1)) n) (hn : ¬ (σ 52 6 < 60 ∧ ¬ (0 < σ 52 6 ∧ y < σ 55 (σ 52 6 - 1))) → Q (some (0, -1)) σ n) : EVM d 24 [(14, 52), (0, h), (0, p), (0, y)] σ n Q := by
  show EV d 24 0 [(14, 52), (0, h), (0, p), (0, y)] [] σ n Q
  refine r_24_0  (ht := fun c => ?_) (hf := fun c => ?_)
  · skip
    refine r_24_31  (k := ?_)
    (first | exact hn (by first | omega | (rw [hz] at *; omega)) | (rw [hz] at *; exact hn (by omega)) | (rw [Zadd_eq (by omega) (by omega), Zsub_eq (by omega) (by omega), Int.add_sub_cancel]; exact hv (by first | omega | (rw [hz] at *; omega))))
  · skip
    refine r_24_9  (ht := fun c => ?_) (hf := fun c => ?_)
    · skip
      refine r_24_33 (hG := hG) (h0 := (by first | omega | (simp (disch := omega) only [Zadd_eq, Zsub_eq, Zmul_eq]; omega))) (k := ?_)
      (first | exact hn (by first | omega | (rw [hz] at *; omega)) | (rw [hz] at *; exact hn (by omega)) | (rw [Zadd_eq (by omega) (by omega), Zsub_eq (by omega) (by omega), Int.add_sub_cancel]; exact hv (by first | omega | (rw [hz] at *; omega))))
    · skip
      refine r_24_16 (hG := hG) (h0 := (by first | omega | (simp (disch := omega) only [Zadd_eq, Zsub_eq, Zmul_eq]; omega))) (ht := fun c => ?_) (hf := fun c => ?_)
      · skip
        refine r_24_33 (hG := hG) (h0 := (by first | omega | (simp (disch := omega) only [Zadd_eq, Zsub_eq, Zmul_eq]; omega))) (k := ?_)
        (first | exact hn (by first | omega | (rw [hz] at *; omega)) | (rw [hz] at *; exact hn (by omega)) | (rw [Zadd_eq (by omega) (by omega), Zsub_eq (by omega) (by omega), Int.add_sub_cancel]; exact hv (by first | omega | (rw [hz] at *; omega))))
      · skip
        refine r_24_31  (k := ?_)
        (first | exact hn (by first | omega | (rw [hz] at *; omega)) | (rw [hz] at *; exact hn (by omega)) | (rw [Zadd_eq (by omega) (by omega), Zsub_eq (by omega) (by omega), Int.add_sub_cancel]; exact hv (by first | omega | (rw [hz] at *; omega))))
set_option maxHeartbeats 2000000 in
theorem s_ask {d : Nat} {σ : Mem} {n : Nat} {Q : Pst} {h p y : Int} (hG : GR σ) (hD : DK σ) (hs : 0 ≤ σ 52 6 ∧ σ 52 6 ≤ 60) (hz : Zsub (σ 52 6) 1 = σ 52 6 - 1) (hv : (0 ≤ h ∧ h < σ 14 1) ∧ (0 ≤ p ∧ p < σ 3 2 ∧ p < 5) ∧ (0 ≤ y ∧ y ≤ 999) ∧ (σ 52 6 < 60 ∧ ¬ (0 < σ 52 6 ∧ y < σ 55 (σ 52 6 - 1))) → Q (some (0, σ 52 6)) (wrM (wrM (wrM (wrM (wrM σ 53 (σ 52 6) h) 54 (σ 52 6) p) 55 (σ 52 6) y) 58 (σ 52 6) (-1)) 52 6 (σ 52 6 + 1)) n) (hn : ¬ ((0 ≤ h ∧ h < σ 14 1) ∧ (0 ≤ p ∧ p < σ 3 2 ∧ p < 5) ∧ (0 ≤ y ∧ y ≤ 999) ∧ (σ 52 6 < 60 ∧ ¬ (0 < σ 52 6 ∧ y < σ 55 (σ 52 6 - 1)))) → Q (some (0, -1)) σ n) : EVM (d + 2) 109 [(21, 0), (0, h), (0, p), (0, y)] σ n Q := by
  show EV (d + 2) 109 0 [(21, 0), (0, h), (0, p), (0, y)] [] σ n Q
  refine r_109_0 (hG := hG) (k := ?_)
  refine s_dget hG hD (fun c => ?_) (fun c => ?_)
  · dsimp only [Option.toList_some, List.cons_append, List.nil_append]
    refine r_109_8  (ht := fun c => ?_) (hf := fun c => ?_)
    · skip
      refine r_109_29  (k := ?_)
      (first | exact hn (by omega) | exact hv (by omega) | (simp (disch := omega) only [Zadd_eq, Zsub_eq, Zmul_eq]; exact hv (by omega)) | (exfalso; omega))
    · skip
      refine r_109_11 (hG := hG) (k := ?_)
      refine s_has (fun c => ?_) (fun c => ?_)
      · dsimp only [Option.toList_some, List.cons_append, List.nil_append]
        refine r_109_19  (ht := fun c => absurd c (by decide)) (hf := fun _ => ?_)
        refine r_109_22  (k := ?_)
        refine s_isDay (fun c => ?_) (fun c => ?_)
        · dsimp only [Option.toList_some, List.cons_append, List.nil_append]
          refine r_109_26  (ht := fun _ => ?_) (hf := fun c => absurd c (by decide))
          refine r_109_31 (hG := hG) (k := ?_)
          refine s_iadd hG hs hz (fun c => ?_) (fun c => ?_)
          · dsimp only [Option.toList_some, List.cons_append, List.nil_append]
            refine r_109_41  (k := ?_)
            (first | exact hn (by omega) | exact hv (by omega) | (simp (disch := omega) only [Zadd_eq, Zsub_eq, Zmul_eq]; exact hv (by omega)) | (exfalso; omega))
          · dsimp only [Option.toList_some, List.cons_append, List.nil_append]
            refine r_109_41  (k := ?_)
            (first | exact hn (by omega) | exact hv (by omega) | (simp (disch := omega) only [Zadd_eq, Zsub_eq, Zmul_eq]; exact hv (by omega)) | (exfalso; omega))
        · dsimp only [Option.toList_some, List.cons_append, List.nil_append]
          refine r_109_26  (ht := fun c => absurd c (by decide)) (hf := fun _ => ?_)
          refine r_109_29  (k := ?_)
          (first | exact hn (by omega) | exact hv (by omega) | (simp (disch := omega) only [Zadd_eq, Zsub_eq, Zmul_eq]; exact hv (by omega)) | (exfalso; omega))
      · dsimp only [Option.toList_some, List.cons_append, List.nil_append]
        refine r_109_19  (ht := fun _ => ?_) (hf := fun c => absurd c (by decide))
        refine r_109_29  (k := ?_)
        (first | exact hn (by omega) | exact hv (by omega) | (simp (disch := omega) only [Zadd_eq, Zsub_eq, Zmul_eq]; exact hv (by omega)) | (exfalso; omega))
  · dsimp only [Option.toList_some, List.cons_append, List.nil_append]
    refine r_109_8  (ht := fun c => ?_) (hf := fun c => ?_)
    · skip
      refine r_109_29  (k := ?_)
      (first | exact hn (by omega) | exact hv (by omega) | (simp (disch := omega) only [Zadd_eq, Zsub_eq, Zmul_eq]; exact hv (by omega)) | (exfalso; omega))
    · skip
      refine r_109_11 (hG := hG) (k := ?_)
      refine s_has (fun c => ?_) (fun c => ?_)
      · dsimp only [Option.toList_some, List.cons_append, List.nil_append]
        refine r_109_19  (ht := fun c => absurd c (by decide)) (hf := fun _ => ?_)
        refine r_109_22  (k := ?_)
        refine s_isDay (fun c => ?_) (fun c => ?_)
        · dsimp only [Option.toList_some, List.cons_append, List.nil_append]
          refine r_109_26  (ht := fun _ => ?_) (hf := fun c => absurd c (by decide))
          refine r_109_31 (hG := hG) (k := ?_)
          refine s_iadd hG hs hz (fun c => ?_) (fun c => ?_)
          · dsimp only [Option.toList_some, List.cons_append, List.nil_append]
            refine r_109_41  (k := ?_)
            (first | exact hn (by omega) | exact hv (by omega) | (simp (disch := omega) only [Zadd_eq, Zsub_eq, Zmul_eq]; exact hv (by omega)) | (exfalso; omega))
          · dsimp only [Option.toList_some, List.cons_append, List.nil_append]
            refine r_109_41  (k := ?_)
            (first | exact hn (by omega) | exact hv (by omega) | (simp (disch := omega) only [Zadd_eq, Zsub_eq, Zmul_eq]; exact hv (by omega)) | (exfalso; omega))
        · dsimp only [Option.toList_some, List.cons_append, List.nil_append]
          refine r_109_26  (ht := fun c => absurd c (by decide)) (hf := fun _ => ?_)
          refine r_109_29  (k := ?_)
          (first | exact hn (by omega) | exact hv (by omega) | (simp (disch := omega) only [Zadd_eq, Zsub_eq, Zmul_eq]; exact hv (by omega)) | (exfalso; omega))
      · dsimp only [Option.toList_some, List.cons_append, List.nil_append]
        refine r_109_19  (ht := fun _ => ?_) (hf := fun c => absurd c (by decide))
        refine r_109_29  (k := ?_)
        (first | exact hn (by omega) | exact hv (by omega) | (simp (disch := omega) only [Zadd_eq, Zsub_eq, Zmul_eq]; exact hv (by omega)) | (exfalso; omega))
