/-! simple operations of both sides -/
set_option maxHeartbeats 2000000 in
theorem s_setWay {d : Nat} {σ : Mem} {n : Nat} {Q : Pst} {x y m : Int} (hG : GR σ) (hx : 0 ≤ x ∧ x ≤ 5) (hy : 0 ≤ y ∧ y ≤ 5) (k : Q none (wrM (wrM σ 2 (x * 6 + y) m) 2 (y * 6 + x) m) n) : EVM (d + 2) 83 [(20, 1), (0, x), (0, y), (0, m)] σ n Q := by
  show EV (d + 2) 83 0 [(20, 1), (0, x), (0, y), (0, m)] [] σ n Q
  refine r_83_0  (k := ?_)
  refine s_isTown (fun c => ?_) (fun c => ?_)
  · dsimp only [Option.toList_some, List.cons_append, List.nil_append]
    refine r_83_4  (ht := fun c => absurd c (by decide)) (hf := fun _ => ?_)
    refine r_83_7  (k := ?_)
    refine s_isTown (fun c => ?_) (fun c => ?_)
    · dsimp only [Option.toList_some, List.cons_append, List.nil_append]
      refine r_83_11  (ht := fun c => absurd c (by decide)) (hf := fun _ => ?_)
      refine r_83_14 (hG := hG) (h0 := (by first | omega | (simp (disch := omega) only [Zadd_eq, Zsub_eq, Zmul_eq]; omega))) (h1 := (by first | omega | (simp (disch := omega) only [Zadd_eq, Zsub_eq, Zmul_eq]; omega))) (k := ?_)
      (first | (exfalso; omega) | (simp (disch := omega) only [Zadd_eq, Zsub_eq, Zmul_eq]; exact k))
    · dsimp only [Option.toList_some, List.cons_append, List.nil_append]
      refine r_83_11  (ht := fun _ => ?_) (hf := fun c => absurd c (by decide))
      refine r_83_38  (k := ?_)
      (first | (exfalso; omega) | (simp (disch := omega) only [Zadd_eq, Zsub_eq, Zmul_eq]; exact k))
  · dsimp only [Option.toList_some, List.cons_append, List.nil_append]
    refine r_83_4  (ht := fun _ => ?_) (hf := fun c => absurd c (by decide))
    refine r_83_38  (k := ?_)
    (first | (exfalso; omega) | (simp (disch := omega) only [Zadd_eq, Zsub_eq, Zmul_eq]; exact k))
set_option maxHeartbeats 2000000 in
theorem s_betw {d : Nat} {σ : Mem} {n : Nat} {Q : Pst} {x y : Int} (hG : GR σ) (hx : 0 ≤ x ∧ x ≤ 5) (hy : 0 ≤ y ∧ y ≤ 5) (k : Q (some (0, σ 2 (x * 6 + y))) σ n) : EVM (d + 2) 82 [(20, 1), (0, x), (0, y)] σ n Q := by
  show EV (d + 2) 82 0 [(20, 1), (0, x), (0, y)] [] σ n Q
  refine r_82_0  (k := ?_)
  refine s_isTown (fun c => ?_) (fun c => ?_)
  · dsimp only [Option.toList_some, List.cons_append, List.nil_append]
    refine r_82_4  (ht := fun c => absurd c (by decide)) (hf := fun _ => ?_)
    refine r_82_7  (k := ?_)
    refine s_isTown (fun c => ?_) (fun c => ?_)
    · dsimp only [Option.toList_some, List.cons_append, List.nil_append]
      refine r_82_11  (ht := fun c => absurd c (by decide)) (hf := fun _ => ?_)
      refine r_82_14 (hG := hG) (h0 := (by first | omega | (simp (disch := omega) only [Zadd_eq, Zsub_eq, Zmul_eq]; omega))) (k := ?_)
      (first | (exfalso; omega) | (simp (disch := omega) only [Zadd_eq, Zsub_eq, Zmul_eq]; exact k))
    · dsimp only [Option.toList_some, List.cons_append, List.nil_append]
      refine r_82_11  (ht := fun _ => ?_) (hf := fun c => absurd c (by decide))
      refine r_82_28  (k := ?_)
      (first | (exfalso; omega) | (simp (disch := omega) only [Zadd_eq, Zsub_eq, Zmul_eq]; exact k))
  · dsimp only [Option.toList_some, List.cons_append, List.nil_append]
    refine r_82_4  (ht := fun _ => ?_) (hf := fun c => absurd c (by decide))
    refine r_82_28  (k := ?_)
    (first | (exfalso; omega) | (simp (disch := omega) only [Zadd_eq, Zsub_eq, Zmul_eq]; exact k))
set_option maxHeartbeats 2000000 in
theorem s_way {d : Nat} {σ : Mem} {n : Nat} {Q : Pst} {a b m : Int} (hG : GR σ) (hv : 0 ≤ a ∧ a ≤ 5 ∧ 0 ≤ b ∧ b ≤ 5 ∧ ¬ a = b ∧ 0 ≤ m ∧ m ≤ 300 → Q (some (0, σ 2 (a * 6 + b))) (wrM (wrM σ 2 (a * 6 + b) m) 2 (b * 6 + a) m) n) (hn : ¬ (0 ≤ a ∧ a ≤ 5 ∧ 0 ≤ b ∧ b ≤ 5 ∧ ¬ a = b ∧ 0 ≤ m ∧ m ≤ 300) → Q (some (0, -1)) σ n) : EVM (d + 3) 86 [(21, 0), (0, a), (0, b), (0, m)] σ n Q := by
  show EV (d + 3) 86 0 [(21, 0), (0, a), (0, b), (0, m), (9, 0)] [] σ n Q
  refine r_86_0  (k := ?_)
  refine s_isTown (fun c => ?_) (fun c => ?_)
  · dsimp only [Option.toList_some, List.cons_append, List.nil_append]
    refine r_86_4  (ht := fun c => absurd c (by decide)) (hf := fun _ => ?_)
    refine r_86_7  (k := ?_)
    refine s_isTown (fun c => ?_) (fun c => ?_)
    · dsimp only [Option.toList_some, List.cons_append, List.nil_append]
      refine r_86_11  (ht := fun c => absurd c (by decide)) (hf := fun _ => ?_)
      refine r_86_14  (ht := fun c => ?_) (hf := fun c => ?_)
      · skip
        refine r_86_30  (k := ?_)
        (first | exact hn (by omega) | exact hv (by omega) | (simp (disch := omega) only [Zadd_eq, Zsub_eq, Zmul_eq]; exact hv (by omega)) | (exfalso; omega))
      · skip
        refine r_86_19  (k := ?_)
        refine s_within (fun c => ?_) (fun c => ?_)
        · dsimp only [Option.toList_some, List.cons_append, List.nil_append]
          refine r_86_27  (ht := fun _ => ?_) (hf := fun c => absurd c (by decide))
          refine r_86_32 (hG := hG) (k := ?_)
          refine s_betw hG (by omega) (by omega) ?_
          dsimp only [Option.toList_some, Option.toList_none, List.cons_append, List.nil_append]
          refine r_86_41 (hG := hG) (k := ?_)
          refine s_setWay (hG) (by omega) (by omega) ?_
          dsimp only [Option.toList_some, Option.toList_none, List.cons_append, List.nil_append]
          refine r_86_53  (k := ?_)
          (first | exact hn (by omega) | exact hv (by omega) | (simp (disch := omega) only [Zadd_eq, Zsub_eq, Zmul_eq]; exact hv (by omega)) | (exfalso; omega))
        · dsimp only [Option.toList_some, List.cons_append, List.nil_append]
          refine r_86_27  (ht := fun c => absurd c (by decide)) (hf := fun _ => ?_)
          refine r_86_30  (k := ?_)
          (first | exact hn (by omega) | exact hv (by omega) | (simp (disch := omega) only [Zadd_eq, Zsub_eq, Zmul_eq]; exact hv (by omega)) | (exfalso; omega))
    · dsimp only [Option.toList_some, List.cons_append, List.nil_append]
      refine r_86_11  (ht := fun _ => ?_) (hf := fun c => absurd c (by decide))
      refine r_86_30  (k := ?_)
      (first | exact hn (by omega) | exact hv (by omega) | (simp (disch := omega) only [Zadd_eq, Zsub_eq, Zmul_eq]; exact hv (by omega)) | (exfalso; omega))
  · dsimp only [Option.toList_some, List.cons_append, List.nil_append]
    refine r_86_4  (ht := fun _ => ?_) (hf := fun c => absurd c (by decide))
    refine r_86_30  (k := ?_)
    (first | exact hn (by omega) | exact hv (by omega) | (simp (disch := omega) only [Zadd_eq, Zsub_eq, Zmul_eq]; exact hv (by omega)) | (exfalso; omega))
set_option maxHeartbeats 2000000 in
theorem m_way {d : Nat} {σ : Mem} {n : Nat} {Q : Pst} {a b m : Int} (hG : GR σ) (hv : 0 ≤ a ∧ a ≤ 5 ∧ 0 ≤ b ∧ b ≤ 5 ∧ ¬ a = b ∧ 0 ≤ m ∧ m ≤ 300 → Q (some (0, σ 70 (6 * a + b))) (wrM (wrM σ 70 (6 * a + b) m) 70 (6 * b + a) m) n) (hn : ¬ (0 ≤ a ∧ a ≤ 5 ∧ 0 ≤ b ∧ b ≤ 5 ∧ ¬ a = b ∧ 0 ≤ m ∧ m ≤ 300) → Q (some (0, -1)) σ n) : EVM (d + 1) 123 [(22, 69), (0, a), (0, b), (0, m)] σ n Q := by
  show EV (d + 1) 123 0 [(22, 69), (0, a), (0, b), (0, m), (9, 0)] [] σ n Q
  refine r_123_0  (k := ?_)
  refine m_in (fun c => ?_) (fun c => ?_)
  · dsimp only [Option.toList_some, List.cons_append, List.nil_append]
    refine r_123_6  (ht := fun c => absurd c (by decide)) (hf := fun _ => ?_)
    refine r_123_9  (k := ?_)
    refine m_in (fun c => ?_) (fun c => ?_)
    · dsimp only [Option.toList_some, List.cons_append, List.nil_append]
      refine r_123_15  (ht := fun c => absurd c (by decide)) (hf := fun _ => ?_)
      refine r_123_18  (ht := fun c => ?_) (hf := fun c => ?_)
      · skip
        refine r_123_34  (k := ?_)
        (first | exact hn (by omega) | exact hv (by omega) | (simp (disch := omega) only [Zadd_eq, Zsub_eq, Zmul_eq]; exact hv (by omega)) | (exfalso; omega))
      · skip
        refine r_123_23  (k := ?_)
        refine m_in (fun c => ?_) (fun c => ?_)
        · dsimp only [Option.toList_some, List.cons_append, List.nil_append]
          refine r_123_31  (ht := fun _ => ?_) (hf := fun c => absurd c (by decide))
          refine r_123_36 (hG := hG) (h0 := (by first | omega | (simp (disch := omega) only [Zadd_eq, Zsub_eq, Zmul_eq]; omega))) (h1 := (by first | omega | (simp (disch := omega) only [Zadd_eq, Zsub_eq, Zmul_eq]; omega))) (k := ?_)
          (first | exact hn (by omega) | exact hv (by omega) | (simp (disch := omega) only [Zadd_eq, Zsub_eq, Zmul_eq]; exact hv (by omega)) | (exfalso; omega))
        · dsimp only [Option.toList_some, List.cons_append, List.nil_append]
          refine r_123_31  (ht := fun c => absurd c (by decide)) (hf := fun _ => ?_)
          refine r_123_34  (k := ?_)
          (first | exact hn (by omega) | exact hv (by omega) | (simp (disch := omega) only [Zadd_eq, Zsub_eq, Zmul_eq]; exact hv (by omega)) | (exfalso; omega))
    · dsimp only [Option.toList_some, List.cons_append, List.nil_append]
      refine r_123_15  (ht := fun _ => ?_) (hf := fun c => absurd c (by decide))
      refine r_123_34  (k := ?_)
      (first | exact hn (by omega) | exact hv (by omega) | (simp (disch := omega) only [Zadd_eq, Zsub_eq, Zmul_eq]; exact hv (by omega)) | (exfalso; omega))
  · dsimp only [Option.toList_some, List.cons_append, List.nil_append]
    refine r_123_6  (ht := fun _ => ?_) (hf := fun c => absurd c (by decide))
    refine r_123_34  (k := ?_)
    (first | exact hn (by omega) | exact hv (by omega) | (simp (disch := omega) only [Zadd_eq, Zsub_eq, Zmul_eq]; exact hv (by omega)) | (exfalso; omega))
set_option maxHeartbeats 2000000 in
theorem s_dialect {d : Nat} {σ : Mem} {n : Nat} {Q : Pst} {t o : Int} (hG : GR σ) (ht : -2147483648 ≤ t ∧ t ≤ 2147483647) (hv : 2 ≤ t ∧ t ≤ 9 ∧ 0 ≤ o ∧ o ≤ t - 1 → Q (some (0, 1)) (wrM σ 7 t o) n) (hn : ¬ (2 ≤ t ∧ t ≤ 9 ∧ 0 ≤ o ∧ o ≤ t - 1) → Q (some (0, 0)) σ n) : EVM (d + 1) 87 [(21, 0), (0, t), (0, o)] σ n Q := by
  show EV (d + 1) 87 0 [(21, 0), (0, t), (0, o)] [] σ n Q
  refine r_87_0  (k := ?_)
  refine s_within (fun c => ?_) (fun c => ?_)
  · dsimp only [Option.toList_some, List.cons_append, List.nil_append]
    refine r_87_7  (ht := fun c => absurd c (by decide)) (hf := fun _ => ?_)
    refine r_87_10  (k := ?_)
    refine s_within (fun c => ?_) (fun c => ?_)
    · dsimp only [Option.toList_some, List.cons_append, List.nil_append]
      refine r_87_18  (ht := fun _ => ?_) (hf := fun c => absurd c (by decide))
      refine r_87_23 (hG := hG) (h0 := (by first | omega | (simp (disch := omega) only [Zadd_eq, Zsub_eq, Zmul_eq]; omega))) (k := ?_)
      (first | (rw [Zsub_eq (by omega) (by omega)] at *; first | exact hn (by omega) | exact hv (by omega)) | exact hn (by omega) | exact hv (by omega))
    · dsimp only [Option.toList_some, List.cons_append, List.nil_append]
      refine r_87_18  (ht := fun c => absurd c (by decide)) (hf := fun _ => ?_)
      refine r_87_21  (k := ?_)
      (first | (rw [Zsub_eq (by omega) (by omega)] at *; first | exact hn (by omega) | exact hv (by omega)) | exact hn (by omega) | exact hv (by omega))
  · dsimp only [Option.toList_some, List.cons_append, List.nil_append]
    refine r_87_7  (ht := fun _ => ?_) (hf := fun c => absurd c (by decide))
    refine r_87_21  (k := ?_)
    (first | (rw [Zsub_eq (by omega) (by omega)] at *; first | exact hn (by omega) | exact hv (by omega)) | exact hn (by omega) | exact hv (by omega))
set_option maxHeartbeats 2000000 in
theorem m_dialect {d : Nat} {σ : Mem} {n : Nat} {Q : Pst} {t o : Int} (hG : GR σ) (ht : -2147483648 ≤ t ∧ t ≤ 2147483647) (hv : 2 ≤ t ∧ t ≤ 9 ∧ 0 ≤ o ∧ o ≤ t - 1 → Q (some (0, 1)) (wrM σ 71 t o) n) (hn : ¬ (2 ≤ t ∧ t ≤ 9 ∧ 0 ≤ o ∧ o ≤ t - 1) → Q (some (0, 0)) σ n) : EVM (d + 1) 124 [(22, 69), (0, t), (0, o)] σ n Q := by
  show EV (d + 1) 124 0 [(22, 69), (0, t), (0, o)] [] σ n Q
  refine r_124_0  (k := ?_)
  refine m_in (fun c => ?_) (fun c => ?_)
  · dsimp only [Option.toList_some, List.cons_append, List.nil_append]
    refine r_124_7  (ht := fun c => absurd c (by decide)) (hf := fun _ => ?_)
    refine r_124_10  (k := ?_)
    refine m_in (fun c => ?_) (fun c => ?_)
    · dsimp only [Option.toList_some, List.cons_append, List.nil_append]
      refine r_124_18  (ht := fun _ => ?_) (hf := fun c => absurd c (by decide))
      refine r_124_23 (hG := hG) (h0 := (by first | omega | (simp (disch := omega) only [Zadd_eq, Zsub_eq, Zmul_eq]; omega))) (k := ?_)
      (first | (rw [Zsub_eq (by omega) (by omega)] at *; first | exact hn (by omega) | exact hv (by omega)) | exact hn (by omega) | exact hv (by omega))
    · dsimp only [Option.toList_some, List.cons_append, List.nil_append]
      refine r_124_18  (ht := fun c => absurd c (by decide)) (hf := fun _ => ?_)
      refine r_124_21  (k := ?_)
      (first | (rw [Zsub_eq (by omega) (by omega)] at *; first | exact hn (by omega) | exact hv (by omega)) | exact hn (by omega) | exact hv (by omega))
  · dsimp only [Option.toList_some, List.cons_append, List.nil_append]
    refine r_124_7  (ht := fun _ => ?_) (hf := fun c => absurd c (by decide))
    refine r_124_21  (k := ?_)
    (first | (rw [Zsub_eq (by omega) (by omega)] at *; first | exact hn (by omega) | exact hv (by omega)) | exact hn (by omega) | exact hv (by omega))
set_option maxHeartbeats 2000000 in
theorem s_rest {d : Nat} {σ : Mem} {n : Nat} {Q : Pst} {m : Int} (hG : GR σ) (hv : 0 ≤ m ∧ m ≤ 120 → Q (some (0, σ 1 1)) (wrM σ 1 1 m) n) (hn : ¬ (0 ≤ m ∧ m ≤ 120) → Q (some (0, -1)) σ n) : EVM (d + 1) 93 [(21, 0), (0, m)] σ n Q := by
  show EV (d + 1) 93 0 [(21, 0), (0, m), (9, 0)] [] σ n Q
  refine r_93_0  (k := ?_)
  refine s_within (fun c => ?_) (fun c => ?_)
  · dsimp only [Option.toList_some, List.cons_append, List.nil_append]
    refine r_93_7  (ht := fun _ => ?_) (hf := fun c => absurd c (by decide))
    refine r_93_12 (hG := hG) (k := ?_)
    (first | exact hn (by omega) | exact hv (by omega) | (simp (disch := omega) only [Zadd_eq, Zsub_eq, Zmul_eq]; exact hv (by omega)) | (exfalso; omega))
  · dsimp only [Option.toList_some, List.cons_append, List.nil_append]
    refine r_93_7  (ht := fun c => absurd c (by decide)) (hf := fun _ => ?_)
    refine r_93_10  (k := ?_)
    (first | exact hn (by omega) | exact hv (by omega) | (simp (disch := omega) only [Zadd_eq, Zsub_eq, Zmul_eq]; exact hv (by omega)) | (exfalso; omega))
set_option maxHeartbeats 2000000 in
theorem m_rest {d : Nat} {σ : Mem} {n : Nat} {Q : Pst} {m : Int} (hv : 0 ≤ m ∧ m ≤ 120 → Q (some (0, σ 69 11)) (wrM σ 69 11 m) n) (hn : ¬ (0 ≤ m ∧ m ≤ 120) → Q (some (0, -1)) σ n) : EVM (d + 1) 133 [(22, 69), (0, m)] σ n Q := by
  show EV (d + 1) 133 0 [(22, 69), (0, m), (9, 0)] [] σ n Q
  refine r_133_0  (k := ?_)
  refine m_in (fun c => ?_) (fun c => ?_)
  · dsimp only [Option.toList_some, List.cons_append, List.nil_append]
    refine r_133_7  (ht := fun _ => ?_) (hf := fun c => absurd c (by decide))
    refine r_133_12  (k := ?_)
    (first | exact hn (by omega) | exact hv (by omega) | (simp (disch := omega) only [Zadd_eq, Zsub_eq, Zmul_eq]; exact hv (by omega)) | (exfalso; omega))
  · dsimp only [Option.toList_some, List.cons_append, List.nil_append]
    refine r_133_7  (ht := fun c => absurd c (by decide)) (hf := fun _ => ?_)
    refine r_133_10  (k := ?_)
    (first | exact hn (by omega) | exact hv (by omega) | (simp (disch := omega) only [Zadd_eq, Zsub_eq, Zmul_eq]; exact hv (by omega)) | (exfalso; omega))
set_option maxHeartbeats 2000000 in
theorem s_padd {d : Nat} {σ : Mem} {n : Nat} {Q : Pst} {t : Int} (hG : GR σ) (hs : 0 ≤ σ 3 2 ∧ σ 3 2 ≤ 5) (hv : σ 3 2 < 5 → Q (some (0, σ 3 2)) (wrM (wrM σ 4 (σ 3 2) t) 3 2 (σ 3 2 + 1)) n) (hn : ¬ σ 3 2 < 5 → Q (some (0, -1)) σ n) : EVM d 35 [(16, 3), (0, t)] σ n Q := by
  show EV d 35 0 [(16, 3), (0, t)] [] σ n Q
  refine r_35_0  (ht := fun c => ?_) (hf := fun c => ?_)
  · skip
    refine r_35_10 (hG := hG) (h0 := (by first | omega | (simp (disch := omega) only [Zadd_eq, Zsub_eq, Zmul_eq]; omega))) (k := ?_)
    (first | exact hn (by omega) | (rw [Zadd_eq (by omega) (by omega), Zsub_eq (by omega) (by omega), Int.add_sub_cancel]; exact hv (by omega)))
  · skip
    refine r_35_8  (k := ?_)
    (first | exact hn (by omega) | (rw [Zadd_eq (by omega) (by omega), Zsub_eq (by omega) (by omega), Int.add_sub_cancel]; exact hv (by omega)))
set_option maxHeartbeats 2000000 in
theorem s_person {d : Nat} {σ : Mem} {n : Nat} {Q : Pst} {t : Int} (hG : GR σ) (hs : 0 ≤ σ 3 2 ∧ σ 3 2 ≤ 5) (hv : 0 ≤ t ∧ t ≤ 5 ∧ σ 3 2 < 5 → Q (some (0, σ 3 2)) (wrM (wrM σ 4 (σ 3 2) t) 3 2 (σ 3 2 + 1)) n) (hn : ¬ (0 ≤ t ∧ t ≤ 5 ∧ σ 3 2 < 5) → Q (some (0, -1)) σ n) : EVM (d + 2) 88 [(21, 0), (0, t)] σ n Q := by
  show EV (d + 2) 88 0 [(21, 0), (0, t)] [] σ n Q
  refine r_88_0  (k := ?_)
  refine s_isTown (fun c => ?_) (fun c => ?_)
  · dsimp only [Option.toList_some, List.cons_append, List.nil_append]
    refine r_88_4  (ht := fun c => absurd c (by decide)) (hf := fun _ => ?_)
    refine r_88_7 (hG := hG) (k := ?_)
    refine s_padd hG hs (fun c => ?_) (fun c => ?_)
    · dsimp only [Option.toList_some, List.cons_append, List.nil_append]
      refine r_88_15  (k := ?_)
      (first | exact hn (by omega) | exact hv (by omega) | (simp (disch := omega) only [Zadd_eq, Zsub_eq, Zmul_eq]; exact hv (by omega)) | (exfalso; omega))
    · dsimp only [Option.toList_some, List.cons_append, List.nil_append]
      refine r_88_15  (k := ?_)
      (first | exact hn (by omega) | exact hv (by omega) | (simp (disch := omega) only [Zadd_eq, Zsub_eq, Zmul_eq]; exact hv (by omega)) | (exfalso; omega))
  · dsimp only [Option.toList_some, List.cons_append, List.nil_append]
    refine r_88_4  (ht := fun _ => ?_) (hf := fun c => absurd c (by decide))
    refine r_88_18  (k := ?_)
    (first | exact hn (by omega) | exact hv (by omega) | (simp (disch := omega) only [Zadd_eq, Zsub_eq, Zmul_eq]; exact hv (by omega)) | (exfalso; omega))
set_option maxHeartbeats 2000000 in
theorem m_person {d : Nat} {σ : Mem} {n : Nat} {Q : Pst} {t : Int} (hG : GR σ) (hs : 0 ≤ σ 69 2 ∧ σ 69 2 ≤ 5) (hv : 0 ≤ t ∧ t ≤ 5 ∧ σ 69 2 < 5 → Q (some (0, σ 69 2)) (wrM (wrM σ 72 (σ 69 2) t) 69 2 (σ 69 2 + 1)) n) (hn : ¬ (0 ≤ t ∧ t ≤ 5 ∧ σ 69 2 < 5) → Q (some (0, -1)) σ n) : EVM (d + 1) 125 [(22, 69), (0, t)] σ n Q := by
  show EV (d + 1) 125 0 [(22, 69), (0, t)] [] σ n Q
  refine r_125_0  (ht := fun c => ?_) (hf := fun c => ?_)
  · skip
    refine r_125_17  (k := ?_)
    (first | exact hn (by omega) | (rw [Zadd_eq (by omega) (by omega), Zsub_eq (by omega) (by omega), Int.add_sub_cancel]; exact hv (by omega)))
  · skip
    refine r_125_8  (k := ?_)
    refine m_in (fun c => ?_) (fun c => ?_)
    · dsimp only [Option.toList_some, List.cons_append, List.nil_append]
      refine r_125_14  (ht := fun _ => ?_) (hf := fun c => absurd c (by decide))
      refine r_125_19 (hG := hG) (h0 := (by first | omega | (simp (disch := omega) only [Zadd_eq, Zsub_eq, Zmul_eq]; omega))) (k := ?_)
      (first | exact hn (by omega) | (rw [Zadd_eq (by omega) (by omega), Zsub_eq (by omega) (by omega), Int.add_sub_cancel]; exact hv (by omega)))
    · dsimp only [Option.toList_some, List.cons_append, List.nil_append]
      refine r_125_14  (ht := fun c => absurd c (by decide)) (hf := fun _ => ?_)
      refine r_125_17  (k := ?_)
      (first | exact hn (by omega) | (rw [Zadd_eq (by omega) (by omega), Zsub_eq (by omega) (by omega), Int.add_sub_cancel]; exact hv (by omega)))
set_option maxHeartbeats 2000000 in
theorem s_end {d : Nat} {σ : Mem} {n : Nat} {Q : Pst} {m : Int} (hG : GR σ) (hv : 0 ≤ m ∧ m ≤ σ 50 3 → Q (some (0, m)) (wrM σ 50 3 m) n) (hn : ¬ (0 ≤ m ∧ m ≤ σ 50 3) → Q (some (0, -1)) σ n) : EVM (d + 1) 105 [(21, 0), (0, m)] σ n Q := by
  show EV (d + 1) 105 0 [(21, 0), (0, m)] [] σ n Q
  refine r_105_0 (hG := hG) (k := ?_)
  refine s_within (fun c => ?_) (fun c => ?_)
  · dsimp only [Option.toList_some, List.cons_append, List.nil_append]
    refine r_105_12  (ht := fun _ => ?_) (hf := fun c => absurd c (by decide))
    refine r_105_17 (hG := hG) (k := ?_)
    (first | exact hn (by omega) | exact hv (by omega) | (simp (disch := omega) only [Zadd_eq, Zsub_eq, Zmul_eq]; exact hv (by omega)) | (exfalso; omega))
  · dsimp only [Option.toList_some, List.cons_append, List.nil_append]
    refine r_105_12  (ht := fun c => absurd c (by decide)) (hf := fun _ => ?_)
    refine r_105_15  (k := ?_)
    (first | exact hn (by omega) | exact hv (by omega) | (simp (disch := omega) only [Zadd_eq, Zsub_eq, Zmul_eq]; exact hv (by omega)) | (exfalso; omega))
set_option maxHeartbeats 2000000 in
theorem m_end {d : Nat} {σ : Mem} {n : Nat} {Q : Pst} {m : Int} (hv : 0 ≤ m ∧ m ≤ σ 69 40 → Q (some (0, m)) (wrM σ 69 40 m) n) (hn : ¬ (0 ≤ m ∧ m ≤ σ 69 40) → Q (some (0, -1)) σ n) : EVM d 162 [(22, 69), (0, m)] σ n Q := by
  show EV d 162 0 [(22, 69), (0, m)] [] σ n Q
  refine r_162_0  (ht := fun c => ?_) (hf := fun c => ?_)
  · skip
    refine r_162_12  (k := ?_)
    (first | exact hn (by omega) | exact hv (by omega) | (simp (disch := omega) only [Zadd_eq, Zsub_eq, Zmul_eq]; exact hv (by omega)) | (exfalso; omega))
  · skip
    refine r_162_4  (ht := fun c => ?_) (hf := fun c => ?_)
    · skip
      refine r_162_14  (k := ?_)
      (first | exact hn (by omega) | exact hv (by omega) | (simp (disch := omega) only [Zadd_eq, Zsub_eq, Zmul_eq]; exact hv (by omega)) | (exfalso; omega))
    · skip
      refine r_162_12  (k := ?_)
      (first | exact hn (by omega) | exact hv (by omega) | (simp (disch := omega) only [Zadd_eq, Zsub_eq, Zmul_eq]; exact hv (by omega)) | (exfalso; omega))
