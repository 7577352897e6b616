/-! the lists of the Teams at 26 -/
set_option maxHeartbeats 2000000 in
theorem TmS.GR26 {σ0 σ : Mem} {l : List Tm} (hL : TmS 26 σ0 σ l) (h : GR σ0) : GR σ := GR.fr (fun c j => (decide (c = 26) && decide (j = 4)) || (decide (27 ≤ c) && decide (c ≤ 29))) h (fun c j q => hL.1 c j (fun z => by simp [z.1, z.2] at q) (fun z => by simp [show (27 : Int) ≤ c from z.1, show c ≤ 29 from z.2] at q)) (by decide)
set_option maxHeartbeats 2000000 in
theorem s_thas26 {d : Nat} {σ : Mem} {n : Nat} {Q : Pst} {x : Int}  (ht : 0 ≤ x ∧ x < σ 26 4 ∧ x < 20 → Q (some (0, 1)) σ n) (hf : ¬ (0 ≤ x ∧ x < σ 26 4 ∧ x < 20) → Q (some (0, 0)) σ n) : EVM d 73 [(19, 26), (0, x)] σ n Q := by
  show EV d 73 0 [(19, 26), (0, x)] [] σ n Q
  refine r26_73_0  (ht := fun c => ?_) (hf := fun c => ?_)
  · skip
    refine r26_73_22  (k := ?_)
    (first | exact ht (by omega) | exact hf (by omega))
  · skip
    refine r26_73_4  (ht := fun c => ?_) (hf := fun c => ?_)
    · skip
      refine r26_73_22  (k := ?_)
      (first | exact ht (by omega) | exact hf (by omega))
    · skip
      refine r26_73_12  (ht := fun c => ?_) (hf := fun c => ?_)
      · skip
        refine r26_73_22  (k := ?_)
        (first | exact ht (by omega) | exact hf (by omega))
      · skip
        refine r26_73_18  (k := ?_)
        (first | exact ht (by omega) | exact hf (by omega))
set_option maxHeartbeats 2000000 in
theorem s_first26 {d : Nat} {σ : Mem} {n : Nat} {Q : Pst} {x : Int} (hG : GR σ) (k : ∀ v, v = (if 0 ≤ x ∧ x < σ 26 4 ∧ x < 20 then σ 27 x else -1 : Int) → Q (some (0, v)) σ n) : EVM (d + 1) 70 [(19, 26), (0, x)] σ n Q := by
  show EV (d + 1) 70 0 [(19, 26), (0, x)] [] σ n Q
  refine r26_70_0  (k := ?_)
  refine s_thas26 (fun c => ?_) (fun c => ?_)
  · dsimp only [Option.toList_some, List.cons_append, List.nil_append]
    refine r26_70_5  (ht := fun c => absurd c (by decide)) (hf := fun _ => ?_)
    refine r26_70_8 (hG := hG) (h0 := (by first | omega | (simp (disch := omega) only [Zadd_eq, Zsub_eq, Zmul_eq]; omega))) (k := ?_)
    exact k _ (by first | rw [if_pos (by omega)] | rw [if_neg (by omega)])
  · dsimp only [Option.toList_some, List.cons_append, List.nil_append]
    refine r26_70_5  (ht := fun _ => ?_) (hf := fun c => absurd c (by decide))
    refine r26_70_17  (k := ?_)
    exact k _ (by first | rw [if_pos (by omega)] | rw [if_neg (by omega)])
set_option maxHeartbeats 2000000 in
theorem s_second26 {d : Nat} {σ : Mem} {n : Nat} {Q : Pst} {x : Int} (hG : GR σ) (k : ∀ v, v = (if 0 ≤ x ∧ x < σ 26 4 ∧ x < 20 then σ 28 x else -1 : Int) → Q (some (0, v)) σ n) : EVM (d + 1) 71 [(19, 26), (0, x)] σ n Q := by
  show EV (d + 1) 71 0 [(19, 26), (0, x)] [] σ n Q
  refine r26_71_0  (k := ?_)
  refine s_thas26 (fun c => ?_) (fun c => ?_)
  · dsimp only [Option.toList_some, List.cons_append, List.nil_append]
    refine r26_71_5  (ht := fun c => absurd c (by decide)) (hf := fun _ => ?_)
    refine r26_71_8 (hG := hG) (h0 := (by first | omega | (simp (disch := omega) only [Zadd_eq, Zsub_eq, Zmul_eq]; omega))) (k := ?_)
    exact k _ (by first | rw [if_pos (by omega)] | rw [if_neg (by omega)])
  · dsimp only [Option.toList_some, List.cons_append, List.nil_append]
    refine r26_71_5  (ht := fun _ => ?_) (hf := fun c => absurd c (by decide))
    refine r26_71_17  (k := ?_)
    exact k _ (by first | rw [if_pos (by omega)] | rw [if_neg (by omega)])
set_option maxHeartbeats 2000000 in
theorem s_relay26 {d : Nat} {σ : Mem} {n : Nat} {Q : Pst} {x : Int} (hG : GR σ) (k : ∀ v, v = (if 0 ≤ x ∧ x < σ 26 4 ∧ x < 20 then σ 29 x else -1 : Int) → Q (some (0, v)) σ n) : EVM (d + 1) 72 [(19, 26), (0, x)] σ n Q := by
  show EV (d + 1) 72 0 [(19, 26), (0, x)] [] σ n Q
  refine r26_72_0  (k := ?_)
  refine s_thas26 (fun c => ?_) (fun c => ?_)
  · dsimp only [Option.toList_some, List.cons_append, List.nil_append]
    refine r26_72_5  (ht := fun c => absurd c (by decide)) (hf := fun _ => ?_)
    refine r26_72_8 (hG := hG) (h0 := (by first | omega | (simp (disch := omega) only [Zadd_eq, Zsub_eq, Zmul_eq]; omega))) (k := ?_)
    exact k _ (by first | rw [if_pos (by omega)] | rw [if_neg (by omega)])
  · dsimp only [Option.toList_some, List.cons_append, List.nil_append]
    refine r26_72_5  (ht := fun _ => ?_) (hf := fun c => absurd c (by decide))
    refine r26_72_17  (k := ?_)
    exact k _ (by first | rw [if_pos (by omega)] | rw [if_neg (by omega)])
set_option maxHeartbeats 2000000 in
theorem s_isAble26 {d : Nat} {σ : Mem} {n : Nat} {Q : Pst} {ab : Int → Int → Bool} {x a b : Int} (hG : GR σ) (hA : AB 26 σ ab) (hx : 0 ≤ x ∧ x ≤ 4) (ha : 0 ≤ a ∧ a ≤ 9) (hb : 0 ≤ b ∧ b ≤ 9) (ht : ab x a = true ∧ ab x b = true → Q (some (0, 1)) σ n) (hf : ¬ (ab x a = true ∧ ab x b = true) → Q (some (0, 0)) σ n) : EVM d 75 [(19, 26), (0, x), (0, a), (0, b)] σ n Q := by
  show EV d 75 0 [(19, 26), (0, x), (0, a), (0, b)] [] σ n Q
  refine r26_75_0 (hG := hG) (h0 := (by first | omega | (simp (disch := omega) only [Zadd_eq, Zsub_eq, Zmul_eq]; omega))) (ht := fun c => ?_) (hf := fun c => ?_)
  · skip
    refine r26_75_32  (k := ?_)
    have q1 : σ 30 (x * 10 + a) = if ab x a = true then 1 else 0 := hA x a hx.1 hx.2 ha.1 ha.2
    have q2 : σ 30 (x * 10 + b) = if ab x b = true then 1 else 0 := hA x b hx.1 hx.2 hb.1 hb.2
    simp (disch := omega) only [Zadd_eq, Zmul_eq] at *
    (first | (refine ht ⟨?_, ?_⟩ <;> (split at q1 <;> split at q2 <;> first | assumption | (exfalso; omega))) | (refine hf (fun z => ?_); rw [if_pos z.1] at q1; rw [if_pos z.2] at q2; omega))
  · skip
    refine r26_75_14 (hG := hG) (h0 := (by first | omega | (simp (disch := omega) only [Zadd_eq, Zsub_eq, Zmul_eq]; omega))) (ht := fun c => ?_) (hf := fun c => ?_)
    · skip
      refine r26_75_32  (k := ?_)
      have q1 : σ 30 (x * 10 + a) = if ab x a = true then 1 else 0 := hA x a hx.1 hx.2 ha.1 ha.2
      have q2 : σ 30 (x * 10 + b) = if ab x b = true then 1 else 0 := hA x b hx.1 hx.2 hb.1 hb.2
      simp (disch := omega) only [Zadd_eq, Zmul_eq] at *
      (first | (refine ht ⟨?_, ?_⟩ <;> (split at q1 <;> split at q2 <;> first | assumption | (exfalso; omega))) | (refine hf (fun z => ?_); rw [if_pos z.1] at q1; rw [if_pos z.2] at q2; omega))
    · skip
      refine r26_75_28  (k := ?_)
      have q1 : σ 30 (x * 10 + a) = if ab x a = true then 1 else 0 := hA x a hx.1 hx.2 ha.1 ha.2
      have q2 : σ 30 (x * 10 + b) = if ab x b = true then 1 else 0 := hA x b hx.1 hx.2 hb.1 hb.2
      simp (disch := omega) only [Zadd_eq, Zmul_eq] at *
      (first | (refine ht ⟨?_, ?_⟩ <;> (split at q1 <;> split at q2 <;> first | assumption | (exfalso; omega))) | (refine hf (fun z => ?_); rw [if_pos z.1] at q1; rw [if_pos z.2] at q2; omega))
set_option maxHeartbeats 2000000 in
theorem s_tadd26 {d : Nat} {σ0 σ : Mem} {n : Nat} {Q : Pst} {x y z : Int} {l : List Tm} (hG : GR σ0) (hL : TmS 26 σ0 σ l) (hl : l.length < 20) (k : ∀ τ, TmS 26 σ0 τ (l ++ [(x, y, z)]) → Q none τ n) : EVM d 80 [(19, 26), (0, x), (0, y), (0, z)] σ n Q := by
  show EV d 80 0 [(19, 26), (0, x), (0, y), (0, z)] [] σ n Q
  have e := hL.2.1
  refine r26_80_0 (ht := fun c => by exfalso; omega) (hf := fun c => ?_)
  refine r26_80_9 (hG := hL.GR26 hG) (h0 := by omega) (k := ?_)
  exact k _ (hL.add hl x y z)
set_option maxHeartbeats 2000000 in
theorem l_sg26 {d : Nat} {n : Nat} {Q : Pst} {σ0 : Mem} {ab : Int → Int → Bool} {tg : Int} {hG0 : GR σ0} {hA : AB 26 σ0 ab} {htg : 0 ≤ tg ∧ tg ≤ 9} : ∀ (k : Nat) (j : Nat) (σ : Mem), (TmS 26 σ0 σ (sgN ab tg j)) → (j ≤ 5) → (5 - j < k) → (∀ τ, TmS 26 σ0 τ (sgN ab tg 5) → Q none τ n) → EV (d + 1) 77 2 [(19, 26), (0, tg), (0, (j : Int))] [] σ n Q := by
  intro k
  induction k with
  | zero => intros; exfalso; omega
  | succ k ih =>
    intro j σ hL hj hk hq
    have hG : GR σ := hL.GR26 hG0
    refine r26_77_2  (ht := fun c => ?_) (hf := fun c => ?_)
    · skip
      refine r26_77_30  (k := ?_)
      exact hq σ (by rw [show (5 : Nat) = j by omega]; exact hL)
    · skip
      refine r26_77_7  (k := ?_)
      refine s_isAble26 hG (hA.ls hL) (by omega) (by omega) (by omega) (fun c => ?_) (fun c => ?_)
      · dsimp only [Option.toList_some, List.cons_append, List.nil_append]
        refine r26_77_14  (ht := fun c => absurd c (by decide)) (hf := fun _ => ?_)
        refine r26_77_17  (k := ?_)
        refine s_tadd26 hG0 hL (by have := sgN_b (ab := ab) (tg := tg) j; omega) (fun τ hL2 => ?_)
        dsimp only [Option.toList_some, Option.toList_none, List.cons_append, List.nil_append]
        refine r26_77_24  (k := ?_)
        rw [Zadd_nat (by omega)]
        (first | exact ih (j + 1) τ (by rw [sgN_s, if_pos (by assumption)]; exact hL2) (by omega) (by omega) hq | exact ih (j + 1) σ (by rw [sgN_s, if_neg (by assumption), List.append_nil]; exact hL) (by omega) (by omega) hq)
      · dsimp only [Option.toList_some, List.cons_append, List.nil_append]
        refine r26_77_14  (ht := fun _ => ?_) (hf := fun c => absurd c (by decide))
        refine r26_77_24  (k := ?_)
        rw [Zadd_nat (by omega)]
        (first | exact ih (j + 1) τ (by rw [sgN_s, if_pos (by assumption)]; exact hL2) (by omega) (by omega) hq | exact ih (j + 1) σ (by rw [sgN_s, if_neg (by assumption), List.append_nil]; exact hL) (by omega) (by omega) hq)
set_option maxHeartbeats 2000000 in
theorem s_addSingles26 {d : Nat} {σ0 σ : Mem} {n : Nat} {Q : Pst} {ab : Int → Int → Bool} {tg : Int} (hG0 : GR σ0) (hA : AB 26 σ0 ab) (htg : 0 ≤ tg ∧ tg ≤ 9) (hL : TmS 26 σ0 σ []) (k : ∀ τ, TmS 26 σ0 τ (sgN ab tg 5) → Q none τ n) : EVM (d + 1) 77 [(19, 26), (0, tg)] σ n Q := by
  show EV (d + 1) 77 0 [(19, 26), (0, tg), (9, 0)] [] σ n Q
  refine r26_77_0 (k := ?_)
  exact l_sg26 (hG0 := hG0) (hA := hA) (htg := htg) 6 0 σ hL (by omega) (by omega) k
set_option maxHeartbeats 2000000 in
theorem l_prI26 {d : Nat} {n : Nat} {Q : Pst} {σ0 : Mem} {ab : Int → Int → Bool} {tg : Int} {hG0 : GR σ0} {hA : AB 26 σ0 ab} {htg : 0 ≤ tg ∧ tg ≤ 9} : ∀ (k : Nat) (x j : Nat) (σ : Mem), (TmS 26 σ0 σ (prN ab tg 5 x ++ prI ab tg x j)) → (x < j ∧ j ≤ 5) → (5 - j < k) → (∀ τ l, TmS 26 σ0 τ (prN ab tg 5 (x + 1)) → EV (d + 1) 76 49 [(19, 26), (0, tg), (0, (x : Int)), (0, l)] [] τ n Q) → EV (d + 1) 76 11 [(19, 26), (0, tg), (0, (x : Int)), (0, (j : Int))] [] σ n Q := by
  intro k
  induction k with
  | zero => intros; exfalso; omega
  | succ k ih =>
    intro x j σ hL hj hk hq
    have hG : GR σ := hL.GR26 hG0
    refine r26_76_11  (ht := fun c => ?_) (hf := fun c => ?_)
    · skip
      exact hq σ _ (by rw [prN_s, show (5 : Nat) = j by omega]; rw [show (5 : Nat) = j by omega] at hL; exact hL)
    · skip
      refine r26_76_16  (k := ?_)
      refine s_isAble26 hG (hA.ls hL) (by omega) (by omega) (by omega) (fun c => ?_) (fun c => ?_)
      · dsimp only [Option.toList_some, List.cons_append, List.nil_append]
        refine r26_76_23  (ht := fun c => absurd c (by decide)) (hf := fun _ => ?_)
        refine r26_76_26  (k := ?_)
        refine s_isAble26 hG (hA.ls hL) (by omega) (by omega) (by omega) (fun c => ?_) (fun c => ?_)
        · dsimp only [Option.toList_some, List.cons_append, List.nil_append]
          refine r26_76_33  (ht := fun c => absurd c (by decide)) (hf := fun _ => ?_)
          refine r26_76_36  (k := ?_)
          refine s_tadd26 hG0 hL (by have := prN_b (ab := ab) (tg := tg) (P := 5) (by omega) x; have q := prI_b (ab := ab) (tg := tg) (x := x) j; rw [List.length_append]; rcases q with q | q <;> (try rw [q.1]) <;> (try simp) <;> omega) (fun τ hL2 => ?_)
          dsimp only [Option.toList_some, Option.toList_none, List.cons_append, List.nil_append]
          refine r26_76_43  (k := ?_)
          rw [Zadd_nat (by omega)]
          (first | exact ih x (j + 1) τ (by rw [prI_s, if_pos ⟨by omega, by assumption, by assumption⟩, ← List.append_assoc]; exact hL2) (by omega) (by omega) hq | exact ih x (j + 1) σ (by rw [prI_s, if_neg (fun z => absurd z.2.1 (by assumption)), List.append_nil]; exact hL) (by omega) (by omega) hq | exact ih x (j + 1) σ (by rw [prI_s, if_neg (fun z => absurd z.2.2 (by assumption)), List.append_nil]; exact hL) (by omega) (by omega) hq)
        · dsimp only [Option.toList_some, List.cons_append, List.nil_append]
          refine r26_76_33  (ht := fun _ => ?_) (hf := fun c => absurd c (by decide))
          refine r26_76_43  (k := ?_)
          rw [Zadd_nat (by omega)]
          (first | exact ih x (j + 1) τ (by rw [prI_s, if_pos ⟨by omega, by assumption, by assumption⟩, ← List.append_assoc]; exact hL2) (by omega) (by omega) hq | exact ih x (j + 1) σ (by rw [prI_s, if_neg (fun z => absurd z.2.1 (by assumption)), List.append_nil]; exact hL) (by omega) (by omega) hq | exact ih x (j + 1) σ (by rw [prI_s, if_neg (fun z => absurd z.2.2 (by assumption)), List.append_nil]; exact hL) (by omega) (by omega) hq)
      · dsimp only [Option.toList_some, List.cons_append, List.nil_append]
        refine r26_76_23  (ht := fun _ => ?_) (hf := fun c => absurd c (by decide))
        refine r26_76_43  (k := ?_)
        rw [Zadd_nat (by omega)]
        (first | exact ih x (j + 1) τ (by rw [prI_s, if_pos ⟨by omega, by assumption, by assumption⟩, ← List.append_assoc]; exact hL2) (by omega) (by omega) hq | exact ih x (j + 1) σ (by rw [prI_s, if_neg (fun z => absurd z.2.1 (by assumption)), List.append_nil]; exact hL) (by omega) (by omega) hq | exact ih x (j + 1) σ (by rw [prI_s, if_neg (fun z => absurd z.2.2 (by assumption)), List.append_nil]; exact hL) (by omega) (by omega) hq)
set_option maxHeartbeats 2000000 in
theorem l_prN26 {d : Nat} {n : Nat} {Q : Pst} {σ0 : Mem} {ab : Int → Int → Bool} {tg : Int} {hG0 : GR σ0} {hA : AB 26 σ0 ab} {htg : 0 ≤ tg ∧ tg ≤ 9} : ∀ (k : Nat) (j : Nat) (l3 : AV) (σ : Mem), (TmS 26 σ0 σ (prN ab tg 5 j)) → (j ≤ 5) → (5 - j < k) → (∀ τ, TmS 26 σ0 τ (prN ab tg 5 5) → Q none τ n) → EV (d + 1) 76 2 [(19, 26), (0, tg), (0, (j : Int)), l3] [] σ n Q := by
  intro k
  induction k with
  | zero => intros; exfalso; omega
  | succ k ih =>
    intro j l3 σ hL hj hk hq
    have hG : GR σ := hL.GR26 hG0
    refine r26_76_2  (ht := fun c => ?_) (hf := fun c => ?_)
    · skip
      refine r26_76_55  (k := ?_)
      exact hq σ (by rw [show prN ab tg 5 5 = prN ab tg 5 j by rw [show j = 5 by omega]]; exact hL)
    · skip
      refine r26_76_7  (k := ?_)
      rw [Zadd_nat (by omega)]
      refine l_prI26 (hG0 := hG0) (hA := hA) (htg := htg) 6 j (j + 1) σ (by rw [prI_0, List.append_nil]; exact hL) (by omega) (by omega) (fun τ l hL2 => ?_)
      refine r26_76_49 (k := ?_)
      rw [Zadd_nat (by omega)]
      exact ih (j + 1) _ τ hL2 (by omega) (by omega) hq
set_option maxHeartbeats 2000000 in
theorem s_addPairs26 {d : Nat} {σ0 σ : Mem} {n : Nat} {Q : Pst} {ab : Int → Int → Bool} {tg : Int} (hG0 : GR σ0) (hA : AB 26 σ0 ab) (htg : 0 ≤ tg ∧ tg ≤ 9) (hL : TmS 26 σ0 σ []) (k : ∀ τ, TmS 26 σ0 τ (prN ab tg 5 5) → Q none τ n) : EVM (d + 1) 76 [(19, 26), (0, tg)] σ n Q := by
  show EV (d + 1) 76 0 [(19, 26), (0, tg), (9, 0), (9, 0)] [] σ n Q
  refine r26_76_0 (k := ?_)
  exact l_prN26 (hG0 := hG0) (hA := hA) (htg := htg) 6 0 _ σ hL (by omega) (by omega) k
set_option maxHeartbeats 2000000 in
theorem l_rt26 {d : Nat} {σ : Mem} {n : Nat} {Q : Pst} {ab : Int → Int → Bool} {x y tg : Int} (hG : GR σ) (hA : AB 26 σ ab) (htg : 0 ≤ tg ∧ tg ≤ 9) (hx : 0 ≤ x ∧ x ≤ 4) (hy : 0 ≤ y ∧ y ≤ 4) : ∀ (k : Nat), k ≤ 9 → (∀ v, v = rlF ab x y tg k → Q (some (0, v)) σ n) → EV (d + 1) 79 3 [(19, 26), (0, x), (0, y), (0, tg), (0, 10 - (k : Int))] [] σ n Q := by
  intro k
  induction k with
  | zero =>
    intro _ hq
    refine r26_79_3 (ht := fun c => ?_) (hf := fun c => by exfalso; omega)
    exact r26_79_47 (k := hq _ rfl)
  | succ k ih =>
    intro hk hq
    have e9 : (10 : Int) - ((k + 1 : Nat) : Int) = 9 - (k : Int) := by omega
    rw [e9]
    have nx : (¬ (¬ 9 - (k : Int) = tg ∧ (ab x 0 = true ∧ ab x (9 - (k : Int)) = true) ∧ (ab y (9 - (k : Int)) = true ∧ ab y tg = true))) → EV (d + 1) 79 3 [(19, 26), (0, x), (0, y), (0, tg), (0, Zadd (9 - (k : Int)) 1)] [] σ n Q := fun hc => by
      rw [Zadd_eq (by omega) (by omega), show (9 : Int) - k + 1 = 10 - k by omega]
      exact ih (by omega) (fun v hv => hq v (by rw [rlF_s, if_neg hc]; exact hv))
    refine r26_79_3  (ht := fun c => ?_) (hf := fun c => ?_)
    · skip
      exfalso; omega
    · skip
      refine r26_79_10  (ht := fun c => ?_) (hf := fun c => ?_)
      · skip
        refine r26_79_41  (k := ?_)
        exact nx (fun z => by first | exact absurd (by assumption) z.1 | exact absurd z.2.1 (by assumption) | exact absurd z.2.2 (by assumption))
      · skip
        refine r26_79_16  (k := ?_)
        refine s_isAble26 hG hA (by omega) (by omega) (by omega) (fun c => ?_) (fun c => ?_)
        · dsimp only [Option.toList_some, List.cons_append, List.nil_append]
          refine r26_79_24  (ht := fun c => absurd c (by decide)) (hf := fun _ => ?_)
          refine r26_79_27  (k := ?_)
          refine s_isAble26 hG hA (by omega) (by omega) (by omega) (fun c => ?_) (fun c => ?_)
          · dsimp only [Option.toList_some, List.cons_append, List.nil_append]
            refine r26_79_35  (ht := fun c => absurd c (by decide)) (hf := fun _ => ?_)
            refine r26_79_38  (k := ?_)
            exact hq _ (by rw [rlF_s, if_pos ⟨by assumption, by assumption, by assumption⟩])
          · dsimp only [Option.toList_some, List.cons_append, List.nil_append]
            refine r26_79_35  (ht := fun _ => ?_) (hf := fun c => absurd c (by decide))
            refine r26_79_41  (k := ?_)
            exact nx (fun z => by first | exact absurd (by assumption) z.1 | exact absurd z.2.1 (by assumption) | exact absurd z.2.2 (by assumption))
        · dsimp only [Option.toList_some, List.cons_append, List.nil_append]
          refine r26_79_24  (ht := fun _ => ?_) (hf := fun c => absurd c (by decide))
          refine r26_79_41  (k := ?_)
          exact nx (fun z => by first | exact absurd (by assumption) z.1 | exact absurd z.2.1 (by assumption) | exact absurd z.2.2 (by assumption))
set_option maxHeartbeats 2000000 in
theorem s_rt26 {d : Nat} {σ : Mem} {n : Nat} {Q : Pst} {ab : Int → Int → Bool} {x y tg : Int} (hG : GR σ) (hA : AB 26 σ ab) (htg : 0 ≤ tg ∧ tg ≤ 9) (hx : 0 ≤ x ∧ x ≤ 4) (hy : 0 ≤ y ∧ y ≤ 4) (k : ∀ v, v = rlF ab x y tg 9 → Q (some (0, v)) σ n) : EVM (d + 1) 79 [(19, 26), (0, x), (0, y), (0, tg)] σ n Q := by
  show EV (d + 1) 79 0 [(19, 26), (0, x), (0, y), (0, tg), (9, 0)] [] σ n Q
  refine r26_79_0 (k := ?_)
  exact l_rt26 hG hA htg hx hy 9 (by omega) k
set_option maxHeartbeats 2000000 in
theorem l_rlI26 {d : Nat} {n : Nat} {Q : Pst} {σ0 : Mem} {ab : Int → Int → Bool} {tg : Int} {hG0 : GR σ0} {hA : AB 26 σ0 ab} {htg : 0 ≤ tg ∧ tg ≤ 9} : ∀ (k : Nat) (x j : Nat) (l4 : AV) (σ : Mem), (TmS 26 σ0 σ (rlN ab tg 5 x ++ rlI ab tg x j)) → (x < 5 ∧ j ≤ 5) → (5 - j < k) → (∀ τ l l4, TmS 26 σ0 τ (rlN ab tg 5 (x + 1)) → EV (d + 2) 78 52 [(19, 26), (0, tg), (0, (x : Int)), (0, l), l4] [] τ n Q) → EV (d + 2) 78 9 [(19, 26), (0, tg), (0, (x : Int)), (0, (j : Int)), l4] [] σ n Q := by
  intro k
  induction k with
  | zero => intros; exfalso; omega
  | succ k ih =>
    intro x j l4 σ hL hj hk hq
    have hG : GR σ := hL.GR26 hG0
    refine r26_78_9  (ht := fun c => ?_) (hf := fun c => ?_)
    · skip
      exact hq σ _ _ (by rw [rlN_s, show (5 : Nat) = j by omega]; rw [show (5 : Nat) = j by omega] at hL; exact hL)
    · skip
      refine r26_78_14  (ht := fun c => ?_) (hf := fun c => ?_)
      · skip
        refine r26_78_23  (k := ?_)
        refine s_rt26 hG (hA.ls hL) htg (by omega) (by omega) (fun v ev => ?_)
        dsimp only [Option.toList_some, Option.toList_none, List.cons_append, List.nil_append]
        refine r26_78_30  (ht := fun c => ?_) (hf := fun c => ?_)
        · skip
          refine r26_78_46  (k := ?_)
          rw [Zadd_nat (by omega)]
          (first
           | (exfalso; omega)
           | exact ih x (j + 1) _ τ (by rw [rlI_s]; unfold rlX; rw [if_neg (by assumption : ¬ (x : Int) = j), ← ev, if_neg (by assumption), ← List.append_assoc]; exact hL2) (by omega) (by omega) hq
           | exact ih x (j + 1) _ σ (by rw [rlI_s]; unfold rlX; rw [if_neg (by assumption : ¬ (x : Int) = j), ← ev, if_pos (by assumption), List.append_nil]; exact hL) (by omega) (by omega) hq
           | exact ih x (j + 1) _ σ (by rw [rlI_s]; unfold rlX; rw [if_pos (by assumption : (x : Int) = j), if_pos rfl, List.append_nil]; exact hL) (by omega) (by omega) hq)
        · skip
          refine r26_78_38  (k := ?_)
          refine s_tadd26 hG0 hL (by have := rlN_b (ab := ab) (tg := tg) (P := 5) (by omega) x (by omega); have q := rlI_b (ab := ab) (tg := tg) (x := x) j; have hne : ¬ x = j := (by omega); rw [List.length_append]; omega) (fun τ hL2 => ?_)
          dsimp only [Option.toList_some, Option.toList_none, List.cons_append, List.nil_append]
          refine r26_78_46  (k := ?_)
          rw [Zadd_nat (by omega)]
          (first
           | (exfalso; omega)
           | exact ih x (j + 1) _ τ (by rw [rlI_s]; unfold rlX; rw [if_neg (by assumption : ¬ (x : Int) = j), ← ev, if_neg (by assumption), ← List.append_assoc]; exact hL2) (by omega) (by omega) hq
           | exact ih x (j + 1) _ σ (by rw [rlI_s]; unfold rlX; rw [if_neg (by assumption : ¬ (x : Int) = j), ← ev, if_pos (by assumption), List.append_nil]; exact hL) (by omega) (by omega) hq
           | exact ih x (j + 1) _ σ (by rw [rlI_s]; unfold rlX; rw [if_pos (by assumption : (x : Int) = j), if_pos rfl, List.append_nil]; exact hL) (by omega) (by omega) hq)
      · skip
        refine r26_78_19  (ht := fun c => ?_) (hf := fun c => ?_)
        · skip
          refine r26_78_46  (k := ?_)
          rw [Zadd_nat (by omega)]
          (first
           | (exfalso; omega)
           | exact ih x (j + 1) _ τ (by rw [rlI_s]; unfold rlX; rw [if_neg (by assumption : ¬ (x : Int) = j), ← ev, if_neg (by assumption), ← List.append_assoc]; exact hL2) (by omega) (by omega) hq
           | exact ih x (j + 1) _ σ (by rw [rlI_s]; unfold rlX; rw [if_neg (by assumption : ¬ (x : Int) = j), ← ev, if_pos (by assumption), List.append_nil]; exact hL) (by omega) (by omega) hq
           | exact ih x (j + 1) _ σ (by rw [rlI_s]; unfold rlX; rw [if_pos (by assumption : (x : Int) = j), if_pos rfl, List.append_nil]; exact hL) (by omega) (by omega) hq)
        · skip
          refine r26_78_38  (k := ?_)
          refine s_tadd26 hG0 hL (by have := rlN_b (ab := ab) (tg := tg) (P := 5) (by omega) x (by omega); have q := rlI_b (ab := ab) (tg := tg) (x := x) j; have hne : ¬ x = j := (by omega); rw [List.length_append]; omega) (fun τ hL2 => ?_)
          dsimp only [Option.toList_some, Option.toList_none, List.cons_append, List.nil_append]
          refine r26_78_46  (k := ?_)
          rw [Zadd_nat (by omega)]
          (first
           | (exfalso; omega)
           | exact ih x (j + 1) _ τ (by rw [rlI_s]; unfold rlX; rw [if_neg (by assumption : ¬ (x : Int) = j), ← ev, if_neg (by assumption), ← List.append_assoc]; exact hL2) (by omega) (by omega) hq
           | exact ih x (j + 1) _ σ (by rw [rlI_s]; unfold rlX; rw [if_neg (by assumption : ¬ (x : Int) = j), ← ev, if_pos (by assumption), List.append_nil]; exact hL) (by omega) (by omega) hq
           | exact ih x (j + 1) _ σ (by rw [rlI_s]; unfold rlX; rw [if_pos (by assumption : (x : Int) = j), if_pos rfl, List.append_nil]; exact hL) (by omega) (by omega) hq)
set_option maxHeartbeats 2000000 in
theorem l_rlN26 {d : Nat} {n : Nat} {Q : Pst} {σ0 : Mem} {ab : Int → Int → Bool} {tg : Int} {hG0 : GR σ0} {hA : AB 26 σ0 ab} {htg : 0 ≤ tg ∧ tg ≤ 9} : ∀ (k : Nat) (j : Nat) (l3 l4 : AV) (σ : Mem), (TmS 26 σ0 σ (rlN ab tg 5 j)) → (j ≤ 5) → (5 - j < k) → (∀ τ, TmS 26 σ0 τ (rlN ab tg 5 5) → Q none τ n) → EV (d + 2) 78 2 [(19, 26), (0, tg), (0, (j : Int)), l3, l4] [] σ n Q := by
  intro k
  induction k with
  | zero => intros; exfalso; omega
  | succ k ih =>
    intro j l3 l4 σ hL hj hk hq
    have hG : GR σ := hL.GR26 hG0
    refine r26_78_2  (ht := fun c => ?_) (hf := fun c => ?_)
    · skip
      refine r26_78_58  (k := ?_)
      exact hq σ (by rw [show rlN ab tg 5 5 = rlN ab tg 5 j by rw [show j = 5 by omega]]; exact hL)
    · skip
      refine r26_78_7  (k := ?_)
      refine l_rlI26 (hG0 := hG0) (hA := hA) (htg := htg) 6 j 0 _ σ (by rw [show rlI ab tg j 0 = [] from rfl, List.append_nil]; exact hL) (by omega) (by omega) (fun τ l l4 hL2 => ?_)
      refine r26_78_52 (k := ?_)
      rw [Zadd_nat (by omega)]
      exact ih (j + 1) _ _ τ hL2 (by omega) (by omega) hq
set_option maxHeartbeats 2000000 in
theorem s_addRelays26 {d : Nat} {σ0 σ : Mem} {n : Nat} {Q : Pst} {ab : Int → Int → Bool} {tg : Int} (hG0 : GR σ0) (hA : AB 26 σ0 ab) (htg : 0 ≤ tg ∧ tg ≤ 9) (hL : TmS 26 σ0 σ []) (k : ∀ τ, TmS 26 σ0 τ (rlN ab tg 5 5) → Q none τ n) : EVM (d + 2) 78 [(19, 26), (0, tg)] σ n Q := by
  show EV (d + 2) 78 0 [(19, 26), (0, tg), (9, 0), (9, 0), (9, 0)] [] σ n Q
  refine r26_78_0 (k := ?_)
  exact l_rlN26 (hG0 := hG0) (hA := hA) (htg := htg) 6 0 _ _ σ hL (by omega) (by omega) k
