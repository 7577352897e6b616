/-! leaf methods: the tests of numbers; persons, hearings -/
theorem s_within {d : Nat} {σ : Mem} {n : Nat} {Q : Pst} {x l h : Int}  (ht : l ≤ x ∧ x ≤ h → Q (some (0, 1)) σ n) (hf : ¬ (l ≤ x ∧ x ≤ h) → Q (some (0, 0)) σ n) : EVM d 114 [(0, x), (0, l), (0, h)] σ n Q := by
  show EV d 114 0 [(0, x), (0, l), (0, h)] [] σ n Q
  refine r_114_0  (ht := fun c => ?_) (hf := fun c => ?_)
  · skip
    refine r_114_14  (k := ?_)
    (first | exact ht (by omega) | exact hf (by omega))
  · skip
    refine r_114_5  (ht := fun c => ?_) (hf := fun c => ?_)
    · skip
      refine r_114_14  (k := ?_)
      (first | exact ht (by omega) | exact hf (by omega))
    · skip
      refine r_114_10  (k := ?_)
      (first | exact ht (by omega) | exact hf (by omega))
theorem s_isDay {d : Nat} {σ : Mem} {n : Nat} {Q : Pst} {x : Int}  (ht : 0 ≤ x ∧ x ≤ 999 → Q (some (0, 1)) σ n) (hf : ¬ (0 ≤ x ∧ x ≤ 999) → Q (some (0, 0)) σ n) : EVM (d + 1) 115 [(0, x)] σ n Q := by
  show EV (d + 1) 115 0 [(0, x)] [] σ n Q
  refine r_115_0  (k := ?_)
  refine s_within (fun c => ?_) (fun c => ?_)
  · dsimp only [Option.toList_some, List.cons_append, List.nil_append]
    refine r_115_8 (h0 := by decide) (k := ?_)
    (first | exact ht (by omega) | exact hf (by omega))
  · dsimp only [Option.toList_some, List.cons_append, List.nil_append]
    refine r_115_8 (h0 := by decide) (k := ?_)
    (first | exact ht (by omega) | exact hf (by omega))
theorem s_isTown {d : Nat} {σ : Mem} {n : Nat} {Q : Pst} {x : Int}  (ht : 0 ≤ x ∧ x ≤ 5 → Q (some (0, 1)) σ n) (hf : ¬ (0 ≤ x ∧ x ≤ 5) → Q (some (0, 0)) σ n) : EVM (d + 1) 116 [(0, x)] σ n Q := by
  show EV (d + 1) 116 0 [(0, x)] [] σ n Q
  refine r_116_0  (k := ?_)
  refine s_within (fun c => ?_) (fun c => ?_)
  · dsimp only [Option.toList_some, List.cons_append, List.nil_append]
    refine r_116_6 (h0 := by decide) (k := ?_)
    (first | exact ht (by omega) | exact hf (by omega))
  · dsimp only [Option.toList_some, List.cons_append, List.nil_append]
    refine r_116_6 (h0 := by decide) (k := ?_)
    (first | exact ht (by omega) | exact hf (by omega))
theorem s_isTongue {d : Nat} {σ : Mem} {n : Nat} {Q : Pst} {x : Int}  (ht : 0 ≤ x ∧ x ≤ 9 → Q (some (0, 1)) σ n) (hf : ¬ (0 ≤ x ∧ x ≤ 9) → Q (some (0, 0)) σ n) : EVM (d + 1) 117 [(0, x)] σ n Q := by
  show EV (d + 1) 117 0 [(0, x)] [] σ n Q
  refine r_117_0  (k := ?_)
  refine s_within (fun c => ?_) (fun c => ?_)
  · dsimp only [Option.toList_some, List.cons_append, List.nil_append]
    refine r_117_7 (h0 := by decide) (k := ?_)
    (first | exact ht (by omega) | exact hf (by omega))
  · dsimp only [Option.toList_some, List.cons_append, List.nil_append]
    refine r_117_7 (h0 := by decide) (k := ?_)
    (first | exact ht (by omega) | exact hf (by omega))
theorem s_isGrade {d : Nat} {σ : Mem} {n : Nat} {Q : Pst} {x : Int}  (ht : 1 ≤ x ∧ x ≤ 5 → Q (some (0, 1)) σ n) (hf : ¬ (1 ≤ x ∧ x ≤ 5) → Q (some (0, 0)) σ n) : EVM (d + 1) 118 [(0, x)] σ n Q := by
  show EV (d + 1) 118 0 [(0, x)] [] σ n Q
  refine r_118_0  (k := ?_)
  refine s_within (fun c => ?_) (fun c => ?_)
  · dsimp only [Option.toList_some, List.cons_append, List.nil_append]
    refine r_118_6 (h0 := by decide) (k := ?_)
    (first | exact ht (by omega) | exact hf (by omega))
  · dsimp only [Option.toList_some, List.cons_append, List.nil_append]
    refine r_118_6 (h0 := by decide) (k := ?_)
    (first | exact ht (by omega) | exact hf (by omega))
theorem s_isCase {d : Nat} {σ : Mem} {n : Nat} {Q : Pst} {x : Int}  (ht : 0 ≤ x ∧ x ≤ 19 → Q (some (0, 1)) σ n) (hf : ¬ (0 ≤ x ∧ x ≤ 19) → Q (some (0, 0)) σ n) : EVM (d + 1) 119 [(0, x)] σ n Q := by
  show EV (d + 1) 119 0 [(0, x)] [] σ n Q
  refine r_119_0  (k := ?_)
  refine s_within (fun c => ?_) (fun c => ?_)
  · dsimp only [Option.toList_some, List.cons_append, List.nil_append]
    refine r_119_7 (h0 := by decide) (k := ?_)
    (first | exact ht (by omega) | exact hf (by omega))
  · dsimp only [Option.toList_some, List.cons_append, List.nil_append]
    refine r_119_7 (h0 := by decide) (k := ?_)
    (first | exact ht (by omega) | exact hf (by omega))
theorem m_in {d : Nat} {σ : Mem} {n : Nat} {Q : Pst} {x l h : Int}  (ht : l ≤ x ∧ x ≤ h → Q (some (0, 1)) σ n) (hf : ¬ (l ≤ x ∧ x ≤ h) → Q (some (0, 0)) σ n) : EVM d 122 [(0, x), (0, l), (0, h)] σ n Q := by
  show EV d 122 0 [(0, x), (0, l), (0, h)] [] σ n Q
  refine r_122_0  (ht := fun c => ?_) (hf := fun c => ?_)
  · skip
    refine r_122_14  (k := ?_)
    (first | exact ht (by omega) | exact hf (by omega))
  · skip
    refine r_122_5  (ht := fun c => ?_) (hf := fun c => ?_)
    · skip
      refine r_122_14  (k := ?_)
      (first | exact ht (by omega) | exact hf (by omega))
    · skip
      refine r_122_10  (k := ?_)
      (first | exact ht (by omega) | exact hf (by omega))
theorem m_isDay {d : Nat} {σ : Mem} {n : Nat} {Q : Pst} {x : Int}  (ht : 0 ≤ x ∧ x ≤ 999 → Q (some (0, 1)) σ n) (hf : ¬ (0 ≤ x ∧ x ≤ 999) → Q (some (0, 0)) σ n) : EVM (d + 1) 127 [(0, x)] σ n Q := by
  show EV (d + 1) 127 0 [(0, x)] [] σ n Q
  refine r_127_0  (k := ?_)
  refine m_in (fun c => ?_) (fun c => ?_)
  · dsimp only [Option.toList_some, List.cons_append, List.nil_append]
    refine r_127_8 (h0 := by decide) (k := ?_)
    (first | exact ht (by omega) | exact hf (by omega))
  · dsimp only [Option.toList_some, List.cons_append, List.nil_append]
    refine r_127_8 (h0 := by decide) (k := ?_)
    (first | exact ht (by omega) | exact hf (by omega))
theorem s_has {d : Nat} {σ : Mem} {n : Nat} {Q : Pst} {x : Int}  (ht : 0 ≤ x ∧ x < σ 3 2 ∧ x < 5 → Q (some (0, 1)) σ n) (hf : ¬ (0 ≤ x ∧ x < σ 3 2 ∧ x < 5) → Q (some (0, 0)) σ n) : EVM d 34 [(16, 3), (0, x)] σ n Q := by
  show EV d 34 0 [(16, 3), (0, x)] [] σ n Q
  refine r_34_0  (ht := fun c => ?_) (hf := fun c => ?_)
  · skip
    refine r_34_21  (k := ?_)
    (first | exact ht (by omega) | exact hf (by omega))
  · skip
    refine r_34_4  (ht := fun c => ?_) (hf := fun c => ?_)
    · skip
      refine r_34_21  (k := ?_)
      (first | exact ht (by omega) | exact hf (by omega))
    · skip
      refine r_34_12  (ht := fun c => ?_) (hf := fun c => ?_)
      · skip
        refine r_34_21  (k := ?_)
        (first | exact ht (by omega) | exact hf (by omega))
      · skip
        refine r_34_17  (k := ?_)
        (first | exact ht (by omega) | exact hf (by omega))
theorem s_isDigit {d : Nat} {σ : Mem} {n : Nat} {Q : Pst} {x : Int}  (ht : 48 ≤ x ∧ x ≤ 57 → Q (some (0, 1)) σ n) (hf : ¬ (48 ≤ x ∧ x ≤ 57) → Q (some (0, 0)) σ n) : EVM (d + 1) 63 [(0, x)] σ n Q := by
  show EV (d + 1) 63 0 [(0, x)] [] σ n Q
  refine r_63_0  (k := ?_)
  refine s_within (fun c => ?_) (fun c => ?_)
  · dsimp only [Option.toList_some, List.cons_append, List.nil_append]
    refine r_63_8 (h0 := by decide) (k := ?_)
    (first | exact ht (by omega) | exact hf (by omega))
  · dsimp only [Option.toList_some, List.cons_append, List.nil_append]
    refine r_63_8 (h0 := by decide) (k := ?_)
    (first | exact ht (by omega) | exact hf (by omega))
theorem s_isLetter {d : Nat} {σ : Mem} {n : Nat} {Q : Pst} {x : Int}  (ht : 97 ≤ x ∧ x ≤ 122 → Q (some (0, 1)) σ n) (hf : ¬ (97 ≤ x ∧ x ≤ 122) → Q (some (0, 0)) σ n) : EVM (d + 1) 64 [(0, x)] σ n Q := by
  show EV (d + 1) 64 0 [(0, x)] [] σ n Q
  refine r_64_0  (k := ?_)
  refine s_within (fun c => ?_) (fun c => ?_)
  · dsimp only [Option.toList_some, List.cons_append, List.nil_append]
    refine r_64_8 (h0 := by decide) (k := ?_)
    (first | exact ht (by omega) | exact hf (by omega))
  · dsimp only [Option.toList_some, List.cons_append, List.nil_append]
    refine r_64_8 (h0 := by decide) (k := ?_)
    (first | exact ht (by omega) | exact hf (by omega))
theorem s_isFull {d : Nat} {σ : Mem} {n : Nat} {Q : Pst}   (ht : 24 ≤ σ 14 1 → Q (some (0, 1)) σ n) (hf : ¬ (24 ≤ σ 14 1) → Q (some (0, 0)) σ n) : EVM d 9 [(11, 14)] σ n Q := by
  show EV d 9 0 [(11, 14)] [] σ n Q
  refine r_9_0  (ht := fun c => ?_) (hf := fun c => ?_)
  · skip
    refine r_9_13  (k := ?_)
    (first | exact ht (by omega) | exact hf (by omega))
  · skip
    refine r_9_9  (k := ?_)
    (first | exact ht (by omega) | exact hf (by omega))
theorem s_isLong {d : Nat} {σ : Mem} {n : Nat} {Q : Pst} {x0 : Int} (h0 : 0 ≤ x0) (ht : 90 < σ x0 1 → Q (some (0, 1)) σ n) (hf : ¬ (90 < σ x0 1) → Q (some (0, 0)) σ n) : EVM d 19 [(13, x0)] σ n Q := by
  show EV d 19 0 [(13, x0)] [] σ n Q
  refine r_19_0 (h0 := (by first | omega | (simp (disch := omega) only [Zadd_eq, Zsub_eq, Zmul_eq]; omega))) (ht := fun c => ?_) (hf := fun c => ?_)
  · skip
    refine r_19_13  (k := ?_)
    (first | exact ht (by omega) | exact hf (by omega))
  · skip
    refine r_19_9  (k := ?_)
    (first | exact ht (by omega) | exact hf (by omega))
theorem s_isSeated {d : Nat} {σ : Mem} {n : Nat} {Q : Pst} {x0 x : Int} (h0 : 0 ≤ x0) (ht : ¬ x = -1 ∧ (σ x0 9 = x ∨ σ x0 10 = x) → Q (some (0, 1)) σ n) (hf : ¬ (¬ x = -1 ∧ (σ x0 9 = x ∨ σ x0 10 = x)) → Q (some (0, 0)) σ n) : EVM d 20 [(13, x0), (0, x)] σ n Q := by
  show EV d 20 0 [(13, x0), (0, x)] [] σ n Q
  refine r_20_0  (ht := fun c => ?_) (hf := fun c => ?_)
  · skip
    refine r_20_25  (k := ?_)
    (first | exact ht (by omega) | exact hf (by omega))
  · skip
    refine r_20_5 (h0 := (by first | omega | (simp (disch := omega) only [Zadd_eq, Zsub_eq, Zmul_eq]; omega))) (ht := fun c => ?_) (hf := fun c => ?_)
    · skip
      refine r_20_21  (k := ?_)
      (first | exact ht (by omega) | exact hf (by omega))
    · skip
      refine r_20_13 (h0 := (by first | omega | (simp (disch := omega) only [Zadd_eq, Zsub_eq, Zmul_eq]; omega))) (ht := fun c => ?_) (hf := fun c => ?_)
      · skip
        refine r_20_25  (k := ?_)
        (first | exact ht (by omega) | exact hf (by omega))
      · skip
        refine r_20_21  (k := ?_)
        (first | exact ht (by omega) | exact hf (by omega))
theorem s_leaves {d : Nat} {σ : Mem} {n : Nat} {Q : Pst} {x y z : Int}  (k : Q (some (0, if ¬ x = -1 ∧ ¬ x = y ∧ ¬ x = z then 1 else 0)) σ n) : EVM d 22 [(0, x), (0, y), (0, z)] σ n Q := by
  show EV d 22 0 [(0, x), (0, y), (0, z)] [] σ n Q
  refine r_22_0  (ht := fun c => ?_) (hf := fun c => ?_)
  · skip
    refine r_22_19  (k := ?_)
    (first | exact k | (rw [if_pos (by omega)] at k; exact k) | (rw [if_neg (by omega)] at k; exact k))
  · skip
    refine r_22_5  (ht := fun c => ?_) (hf := fun c => ?_)
    · skip
      refine r_22_19  (k := ?_)
      (first | exact k | (rw [if_pos (by omega)] at k; exact k) | (rw [if_neg (by omega)] at k; exact k))
    · skip
      refine r_22_10  (ht := fun c => ?_) (hf := fun c => ?_)
      · skip
        refine r_22_19  (k := ?_)
        (first | exact k | (rw [if_pos (by omega)] at k; exact k) | (rw [if_neg (by omega)] at k; exact k))
      · skip
        refine r_22_15  (k := ?_)
        (first | exact k | (rw [if_pos (by omega)] at k; exact k) | (rw [if_neg (by omega)] at k; exact k))
theorem m_isPerson {d : Nat} {σ : Mem} {n : Nat} {Q : Pst} {x : Int}  (ht : 0 ≤ x ∧ x ≤ Zsub (σ 69 2) 1 → Q (some (0, 1)) σ n) (hf : ¬ (0 ≤ x ∧ x ≤ Zsub (σ 69 2) 1) → Q (some (0, 0)) σ n) : EVM (d + 1) 126 [(22, 69), (0, x)] σ n Q := by
  show EV (d + 1) 126 0 [(22, 69), (0, x)] [] σ n Q
  refine r_126_0  (k := ?_)
  refine m_in (fun c => ?_) (fun c => ?_)
  · dsimp only [Option.toList_some, List.cons_append, List.nil_append]
    refine r_126_11 (h0 := by decide) (k := ?_)
    (first | exact ht (by omega) | exact hf (by omega))
  · dsimp only [Option.toList_some, List.cons_append, List.nil_append]
    refine r_126_11 (h0 := by decide) (k := ?_)
    (first | exact ht (by omega) | exact hf (by omega))
theorem m_isHearing {d : Nat} {σ : Mem} {n : Nat} {Q : Pst} {x : Int}  (ht : 0 ≤ x ∧ x ≤ Zsub (σ 69 12) 1 → Q (some (0, 1)) σ n) (hf : ¬ (0 ≤ x ∧ x ≤ Zsub (σ 69 12) 1) → Q (some (0, 0)) σ n) : EVM (d + 1) 136 [(22, 69), (0, x)] σ n Q := by
  show EV (d + 1) 136 0 [(22, 69), (0, x)] [] σ n Q
  refine r_136_0  (k := ?_)
  refine m_in (fun c => ?_) (fun c => ?_)
  · dsimp only [Option.toList_some, List.cons_append, List.nil_append]
    refine r_136_11 (h0 := by decide) (k := ?_)
    (first | exact ht (by omega) | exact hf (by omega))
  · dsimp only [Option.toList_some, List.cons_append, List.nil_append]
    refine r_136_11 (h0 := by decide) (k := ?_)
    (first | exact ht (by omega) | exact hf (by omega))
theorem s_isPastBest {d : Nat} {σ : Mem} {n : Nat} {Q : Pst} {x y : Int}  (ht : σ 24 9 < x ∨ (¬ σ 24 6 = 0 ∧ x = σ 24 9 ∧ σ 24 10 < y) → Q (some (0, 1)) σ n) (hf : ¬ (σ 24 9 < x ∨ (¬ σ 24 6 = 0 ∧ x = σ 24 9 ∧ σ 24 10 < y)) → Q (some (0, 0)) σ n) : EVM d 43 [(17, 24), (0, x), (0, y)] σ n Q := by
  show EV d 43 0 [(17, 24), (0, x), (0, y)] [] σ n Q
  refine r_43_0  (ht := fun c => ?_) (hf := fun c => ?_)
  · skip
    refine r_43_31  (k := ?_)
    (first | exact ht (by omega) | exact hf (by omega))
  · skip
    refine r_43_8  (ht := fun c => ?_) (hf := fun c => ?_)
    · skip
      refine r_43_35  (k := ?_)
      (first | exact ht (by omega) | exact hf (by omega))
    · skip
      refine r_43_15  (ht := fun c => ?_) (hf := fun c => ?_)
      · skip
        refine r_43_35  (k := ?_)
        (first | exact ht (by omega) | exact hf (by omega))
      · skip
        refine r_43_23  (ht := fun c => ?_) (hf := fun c => ?_)
        · skip
          refine r_43_35  (k := ?_)
          (first | exact ht (by omega) | exact hf (by omega))
        · skip
          refine r_43_31  (k := ?_)
          (first | exact ht (by omega) | exact hf (by omega))
theorem m_isSeated {d : Nat} {σ : Mem} {n : Nat} {Q : Pst} {x y : Int} (hG : GR σ) (hx : 0 ≤ x ∧ x < 24) (ht : σ 87 x = y ∨ σ 88 x = y → Q (some (0, 1)) σ n) (hf : ¬ (σ 87 x = y ∨ σ 88 x = y) → Q (some (0, 0)) σ n) : EVM d 158 [(22, 69), (0, x), (0, y)] σ n Q := by
  show EV d 158 0 [(22, 69), (0, x), (0, y)] [] σ n Q
  refine r_158_0 (hG := hG) (h0 := (by first | omega | (simp (disch := omega) only [Zadd_eq, Zsub_eq, Zmul_eq]; omega))) (ht := fun c => ?_) (hf := fun c => ?_)
  · skip
    refine r_158_20  (k := ?_)
    (first | exact ht (by omega) | exact hf (by omega))
  · skip
    refine r_158_10 (hG := hG) (h0 := (by first | omega | (simp (disch := omega) only [Zadd_eq, Zsub_eq, Zmul_eq]; omega))) (ht := fun c => ?_) (hf := fun c => ?_)
    · skip
      refine r_158_24  (k := ?_)
      (first | exact ht (by omega) | exact hf (by omega))
    · skip
      refine r_158_20  (k := ?_)
      (first | exact ht (by omega) | exact hf (by omega))
theorem s_isAskedBy {d : Nat} {σ : Mem} {n : Nat} {Q : Pst} {x y : Int} (hG : GR σ) (ht : 0 ≤ x ∧ x < σ 52 6 ∧ x < 60 ∧ σ 55 x ≤ y → Q (some (0, 1)) σ n) (hf : ¬ (0 ≤ x ∧ x < σ 52 6 ∧ x < 60 ∧ σ 55 x ≤ y) → Q (some (0, 0)) σ n) : EVM d 26 [(14, 52), (0, x), (0, y)] σ n Q := by
  show EV d 26 0 [(14, 52), (0, x), (0, y)] [] σ n Q
  refine r_26_0  (ht := fun c => ?_) (hf := fun c => ?_)
  · skip
    refine r_26_32  (k := ?_)
    (first | exact ht (by omega) | exact hf (by omega))
  · skip
    refine r_26_4  (ht := fun c => ?_) (hf := fun c => ?_)
    · skip
      refine r_26_32  (k := ?_)
      (first | exact ht (by omega) | exact hf (by omega))
    · skip
      refine r_26_12  (ht := fun c => ?_) (hf := fun c => ?_)
      · skip
        refine r_26_32  (k := ?_)
        (first | exact ht (by omega) | exact hf (by omega))
      · skip
        refine r_26_18 (hG := hG) (h0 := (by first | omega | (simp (disch := omega) only [Zadd_eq, Zsub_eq, Zmul_eq]; omega))) (ht := fun c => ?_) (hf := fun c => ?_)
        · skip
          refine r_26_32  (k := ?_)
          (first | exact ht (by omega) | exact hf (by omega))
        · skip
          refine r_26_28  (k := ?_)
          (first | exact ht (by omega) | exact hf (by omega))
theorem s_between {d : Nat} {σ : Mem} {n : Nat} {Q : Pst} {x y : Int} (hG : GR σ) (k : Q (some (0, if 0 ≤ x ∧ x ≤ 5 ∧ 0 ≤ y ∧ y ≤ 5 then σ 2 (Zadd (Zmul x 6) y) else 0)) σ n) : EVM (d + 2) 82 [(20, 1), (0, x), (0, y)] σ n Q := by
  show EV (d + 2) 82 0 [(20, 1), (0, x), (0, y)] [] σ n Q
  refine r_82_0  (k := ?_)
  refine s_isTown (fun c => ?_) (fun c => ?_)
  · dsimp only [Option.toList_some, List.cons_append, List.nil_append]
    refine r_82_4  (ht := fun c => absurd c (by decide)) (hf := fun _ => ?_)
    refine r_82_7  (k := ?_)
    refine s_isTown (fun c => ?_) (fun c => ?_)
    · dsimp only [Option.toList_some, List.cons_append, List.nil_append]
      refine r_82_11  (ht := fun c => absurd c (by decide)) (hf := fun _ => ?_)
      refine r_82_14 (hG := hG) (h0 := (by first | omega | (simp (disch := omega) only [Zadd_eq, Zsub_eq, Zmul_eq]; omega))) (k := ?_)
      (first | exact k | (rw [if_pos (by omega)] at k; exact k) | (rw [if_neg (by omega)] at k; exact k))
    · dsimp only [Option.toList_some, List.cons_append, List.nil_append]
      refine r_82_11  (ht := fun _ => ?_) (hf := fun c => absurd c (by decide))
      refine r_82_28  (k := ?_)
      (first | exact k | (rw [if_pos (by omega)] at k; exact k) | (rw [if_neg (by omega)] at k; exact k))
  · dsimp only [Option.toList_some, List.cons_append, List.nil_append]
    refine r_82_4  (ht := fun _ => ?_) (hf := fun c => absurd c (by decide))
    refine r_82_28  (k := ?_)
    (first | exact k | (rw [if_pos (by omega)] at k; exact k) | (rw [if_neg (by omega)] at k; exact k))
