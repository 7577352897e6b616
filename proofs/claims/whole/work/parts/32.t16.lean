/-! the lists of the Teams at 16 -/
set_option maxHeartbeats 2000000 in
theorem TmS.GR16 {σ0 σ : Mem} {l : List Tm} (hL : TmS 16 σ0 σ l) (h : GR σ0) : GR σ := GR.fr (fun c j => (decide (c = 16) && decide (j = 4)) || (decide (17 ≤ c) && decide (c ≤ 19))) h (fun c j q => hL.1 c j (fun z => by simp [z.1, z.2] at q) (fun z => by simp [show (17 : Int) ≤ c from z.1, show c ≤ 19 from z.2] at q)) (by decide)
set_option maxHeartbeats 2000000 in
theorem s_thas16 {d : Nat} {σ : Mem} {n : Nat} {Q : Pst} {x : Int}  (ht : 0 ≤ x ∧ x < σ 16 4 ∧ x < 20 → Q (some (0, 1)) σ n) (hf : ¬ (0 ≤ x ∧ x < σ 16 4 ∧ x < 20) → Q (some (0, 0)) σ n) : EVM d 73 [(19, 16), (0, x)] σ n Q := by
  show EV d 73 0 [(19, 16), (0, x)] [] σ n Q
  refine r16_73_0  (ht := fun c => ?_) (hf := fun c => ?_)
  · skip
    refine r16_73_22  (k := ?_)
    (first | exact ht (by omega) | exact hf (by omega))
  · skip
    refine r16_73_4  (ht := fun c => ?_) (hf := fun c => ?_)
    · skip
      refine r16_73_22  (k := ?_)
      (first | exact ht (by omega) | exact hf (by omega))
    · skip
      refine r16_73_12  (ht := fun c => ?_) (hf := fun c => ?_)
      · skip
        refine r16_73_22  (k := ?_)
        (first | exact ht (by omega) | exact hf (by omega))
      · skip
        refine r16_73_18  (k := ?_)
        (first | exact ht (by omega) | exact hf (by omega))
set_option maxHeartbeats 2000000 in
theorem s_first16 {d : Nat} {σ : Mem} {n : Nat} {Q : Pst} {x : Int} (hG : GR σ) (k : ∀ v, v = (if 0 ≤ x ∧ x < σ 16 4 ∧ x < 20 then σ 17 x else -1 : Int) → Q (some (0, v)) σ n) : EVM (d + 1) 70 [(19, 16), (0, x)] σ n Q := by
  show EV (d + 1) 70 0 [(19, 16), (0, x)] [] σ n Q
  refine r16_70_0  (k := ?_)
  refine s_thas16 (fun c => ?_) (fun c => ?_)
  · dsimp only [Option.toList_some, List.cons_append, List.nil_append]
    refine r16_70_5  (ht := fun c => absurd c (by decide)) (hf := fun _ => ?_)
    refine r16_70_8 (hG := hG) (h0 := (by first | omega | (simp (disch := omega) only [Zadd_eq, Zsub_eq, Zmul_eq]; omega))) (k := ?_)
    exact k _ (by first | rw [if_pos (by omega)] | rw [if_neg (by omega)])
  · dsimp only [Option.toList_some, List.cons_append, List.nil_append]
    refine r16_70_5  (ht := fun _ => ?_) (hf := fun c => absurd c (by decide))
    refine r16_70_17  (k := ?_)
    exact k _ (by first | rw [if_pos (by omega)] | rw [if_neg (by omega)])
set_option maxHeartbeats 2000000 in
theorem s_second16 {d : Nat} {σ : Mem} {n : Nat} {Q : Pst} {x : Int} (hG : GR σ) (k : ∀ v, v = (if 0 ≤ x ∧ x < σ 16 4 ∧ x < 20 then σ 18 x else -1 : Int) → Q (some (0, v)) σ n) : EVM (d + 1) 71 [(19, 16), (0, x)] σ n Q := by
  show EV (d + 1) 71 0 [(19, 16), (0, x)] [] σ n Q
  refine r16_71_0  (k := ?_)
  refine s_thas16 (fun c => ?_) (fun c => ?_)
  · dsimp only [Option.toList_some, List.cons_append, List.nil_append]
    refine r16_71_5  (ht := fun c => absurd c (by decide)) (hf := fun _ => ?_)
    refine r16_71_8 (hG := hG) (h0 := (by first | omega | (simp (disch := omega) only [Zadd_eq, Zsub_eq, Zmul_eq]; omega))) (k := ?_)
    exact k _ (by first | rw [if_pos (by omega)] | rw [if_neg (by omega)])
  · dsimp only [Option.toList_some, List.cons_append, List.nil_append]
    refine r16_71_5  (ht := fun _ => ?_) (hf := fun c => absurd c (by decide))
    refine r16_71_17  (k := ?_)
    exact k _ (by first | rw [if_pos (by omega)] | rw [if_neg (by omega)])
set_option maxHeartbeats 2000000 in
theorem s_relay16 {d : Nat} {σ : Mem} {n : Nat} {Q : Pst} {x : Int} (hG : GR σ) (k : ∀ v, v = (if 0 ≤ x ∧ x < σ 16 4 ∧ x < 20 then σ 19 x else -1 : Int) → Q (some (0, v)) σ n) : EVM (d + 1) 72 [(19, 16), (0, x)] σ n Q := by
  show EV (d + 1) 72 0 [(19, 16), (0, x)] [] σ n Q
  refine r16_72_0  (k := ?_)
  refine s_thas16 (fun c => ?_) (fun c => ?_)
  · dsimp only [Option.toList_some, List.cons_append, List.nil_append]
    refine r16_72_5  (ht := fun c => absurd c (by decide)) (hf := fun _ => ?_)
    refine r16_72_8 (hG := hG) (h0 := (by first | omega | (simp (disch := omega) only [Zadd_eq, Zsub_eq, Zmul_eq]; omega))) (k := ?_)
    exact k _ (by first | rw [if_pos (by omega)] | rw [if_neg (by omega)])
  · dsimp only [Option.toList_some, List.cons_append, List.nil_append]
    refine r16_72_5  (ht := fun _ => ?_) (hf := fun c => absurd c (by decide))
    refine r16_72_17  (k := ?_)
    exact k _ (by first | rw [if_pos (by omega)] | rw [if_neg (by omega)])
set_option maxHeartbeats 2000000 in
theorem s_isAble16 {d : Nat} {σ : Mem} {n : Nat} {Q : Pst} {ab : Int → Int → Bool} {x a b : Int} (hG : GR σ) (hA : AB 16 σ ab) (hx : 0 ≤ x ∧ x ≤ 4) (ha : 0 ≤ a ∧ a ≤ 9) (hb : 0 ≤ b ∧ b ≤ 9) (ht : ab x a = true ∧ ab x b = true → Q (some (0, 1)) σ n) (hf : ¬ (ab x a = true ∧ ab x b = true) → Q (some (0, 0)) σ n) : EVM d 75 [(19, 16), (0, x), (0, a), (0, b)] σ n Q := by
  show EV d 75 0 [(19, 16), (0, x), (0, a), (0, b)] [] σ n Q
  refine r16_75_0 (hG := hG) (h0 := (by first | omega | (simp (disch := omega) only [Zadd_eq, Zsub_eq, Zmul_eq]; omega))) (ht := fun c => ?_) (hf := fun c => ?_)
  · skip
    refine r16_75_32  (k := ?_)
    have q1 : σ 20 (x * 10 + a) = if ab x a = true then 1 else 0 := hA x a hx.1 hx.2 ha.1 ha.2
    have q2 : σ 20 (x * 10 + b) = if ab x b = true then 1 else 0 := hA x b hx.1 hx.2 hb.1 hb.2
    simp (disch := omega) only [Zadd_eq, Zmul_eq] at *
    (first | (refine ht ⟨?_, ?_⟩ <;> (split at q1 <;> split at q2 <;> first | assumption | (exfalso; omega))) | (refine hf (fun z => ?_); rw [if_pos z.1] at q1; rw [if_pos z.2] at q2; omega))
  · skip
    refine r16_75_14 (hG := hG) (h0 := (by first | omega | (simp (disch := omega) only [Zadd_eq, Zsub_eq, Zmul_eq]; omega))) (ht := fun c => ?_) (hf := fun c => ?_)
    · skip
      refine r16_75_32  (k := ?_)
      have q1 : σ 20 (x * 10 + a) = if ab x a = true then 1 else 0 := hA x a hx.1 hx.2 ha.1 ha.2
      have q2 : σ 20 (x * 10 + b) = if ab x b = true then 1 else 0 := hA x b hx.1 hx.2 hb.1 hb.2
      simp (disch := omega) only [Zadd_eq, Zmul_eq] at *
      (first | (refine ht ⟨?_, ?_⟩ <;> (split at q1 <;> split at q2 <;> first | assumption | (exfalso; omega))) | (refine hf (fun z => ?_); rw [if_pos z.1] at q1; rw [if_pos z.2] at q2; omega))
    · skip
      refine r16_75_28  (k := ?_)
      have q1 : σ 20 (x * 10 + a) = if ab x a = true then 1 else 0 := hA x a hx.1 hx.2 ha.1 ha.2
      have q2 : σ 20 (x * 10 + b) = if ab x b = true then 1 else 0 := hA x b hx.1 hx.2 hb.1 hb.2
      simp (disch := omega) only [Zadd_eq, Zmul_eq] at *
      (first | (refine ht ⟨?_, ?_⟩ <;> (split at q1 <;> split at q2 <;> first | assumption | (exfalso; omega))) | (refine hf (fun z => ?_); rw [if_pos z.1] at q1; rw [if_pos z.2] at q2; omega))
set_option maxHeartbeats 2000000 in
theorem s_tadd16 {d : Nat} {σ0 σ : Mem} {n : Nat} {Q : Pst} {x y z : Int} {l : List Tm} (hG : GR σ0) (hL : TmS 16 σ0 σ l) (hl : l.length < 20) (k : ∀ τ, TmS 16 σ0 τ (l ++ [(x, y, z)]) → Q none τ n) : EVM d 80 [(19, 16), (0, x), (0, y), (0, z)] σ n Q := by
  show EV d 80 0 [(19, 16), (0, x), (0, y), (0, z)] [] σ n Q
  have e := hL.2.1
  refine r16_80_0 (ht := fun c => by exfalso; omega) (hf := fun c => ?_)
  refine r16_80_9 (hG := hL.GR16 hG) (h0 := by omega) (k := ?_)
  exact k _ (hL.add hl x y z)
set_option maxHeartbeats 2000000 in
theorem l_sg16 {d : Nat} {n : Nat} {Q : Pst} {σ0 : Mem} {ab : Int → Int → Bool} {tg : Int} {hG0 : GR σ0} {hA : AB 16 σ0 ab} {htg : 0 ≤ tg ∧ tg ≤ 9} : ∀ (k : Nat) (j : Nat) (σ : Mem), (TmS 16 σ0 σ (sgN ab tg j)) → (j ≤ 5) → (5 - j < k) → (∀ τ, TmS 16 σ0 τ (sgN ab tg 5) → Q none τ n) → EV (d + 1) 77 2 [(19, 16), (0, tg), (0, (j : Int))] [] σ n Q := by
  intro k
  induction k with
  | zero => intros; exfalso; omega
  | succ k ih =>
    intro j σ hL hj hk hq
    have hG : GR σ := hL.GR16 hG0
    refine r16_77_2  (ht := fun c => ?_) (hf := fun c => ?_)
    · skip
      refine r16_77_30  (k := ?_)
      exact hq σ (by rw [show (5 : Nat) = j by omega]; exact hL)
    · skip
      refine r16_77_7  (k := ?_)
      refine s_isAble16 hG (hA.ls hL) (by omega) (by omega) (by omega) (fun c => ?_) (fun c => ?_)
      · dsimp only [Option.toList_some, List.cons_append, List.nil_append]
        refine r16_77_14  (ht := fun c => absurd c (by decide)) (hf := fun _ => ?_)
        refine r16_77_17  (k := ?_)
        refine s_tadd16 hG0 hL (by have := sgN_b (ab := ab) (tg := tg) j; omega) (fun τ hL2 => ?_)
        dsimp only [Option.toList_some, Option.toList_none, List.cons_append, List.nil_append]
        refine r16_77_24  (k := ?_)
        rw [Zadd_nat (by omega)]
        (first | exact ih (j + 1) τ (by rw [sgN_s, if_pos (by assumption)]; exact hL2) (by omega) (by omega) hq | exact ih (j + 1) σ (by rw [sgN_s, if_neg (by assumption), List.append_nil]; exact hL) (by omega) (by omega) hq)
      · dsimp only [Option.toList_some, List.cons_append, List.nil_append]
        refine r16_77_14  (ht := fun _ => ?_) (hf := fun c => absurd c (by decide))
        refine r16_77_24  (k := ?_)
        rw [Zadd_nat (by omega)]
        (first | exact ih (j + 1) τ (by rw [sgN_s, if_pos (by assumption)]; exact hL2) (by omega) (by omega) hq | exact ih (j + 1) σ (by rw [sgN_s, if_neg (by assumption), List.append_nil]; exact hL) (by omega) (by omega) hq)
set_option maxHeartbeats 2000000 in
theorem s_addSingles16 {d : Nat} {σ0 σ : Mem} {n : Nat} {Q : Pst} {ab : Int → Int → Bool} {tg : Int} (hG0 : GR σ0) (hA : AB 16 σ0 ab) (htg : 0 ≤ tg ∧ tg ≤ 9) (hL : TmS 16 σ0 σ []) (k : ∀ τ, TmS 16 σ0 τ (sgN ab tg 5) → Q none τ n) : EVM (d + 1) 77 [(19, 16), (0, tg)] σ n Q := by
  show EV (d + 1) 77 0 [(19, 16), (0, tg), (9, 0)] [] σ n Q
  refine r16_77_0 (k := ?_)
  exact l_sg16 (hG0 := hG0) (hA := hA) (htg := htg) 6 0 σ hL (by omega) (by omega) k
set_option maxHeartbeats 2000000 in
theorem l_prI16 {d : Nat} {n : Nat} {Q : Pst} {σ0 : Mem} {ab : Int → Int → Bool} {tg : Int} {hG0 : GR σ0} {hA : AB 16 σ0 ab} {htg : 0 ≤ tg ∧ tg ≤ 9} : ∀ (k : Nat) (x j : Nat) (σ : Mem), (TmS 16 σ0 σ (prN ab tg 5 x ++ prI ab tg x j)) → (x < j ∧ j ≤ 5) → (5 - j < k) → (∀ τ l, TmS 16 σ0 τ (prN ab tg 5 (x + 1)) → EV (d + 1) 76 49 [(19, 16), (0, tg), (0, (x : Int)), (0, l)] [] τ n Q) → EV (d + 1) 76 11 [(19, 16), (0, tg), (0, (x : Int)), (0, (j : Int))] [] σ n Q := by
  intro k
  induction k with
  | zero => intros; exfalso; omega
  | succ k ih =>
    intro x j σ hL hj hk hq
    have hG : GR σ := hL.GR16 hG0
    refine r16_76_11  (ht := fun c => ?_) (hf := fun c => ?_)
    · skip
      exact hq σ _ (by rw [prN_s, show (5 : Nat) = j by omega]; rw [show (5 : Nat) = j by omega] at hL; exact hL)
    · skip
      refine r16_76_16  (k := ?_)
      refine s_isAble16 hG (hA.ls hL) (by omega) (by omega) (by omega) (fun c => ?_) (fun c => ?_)
      · dsimp only [Option.toList_some, List.cons_append, List.nil_append]
        refine r16_76_23  (ht := fun c => absurd c (by decide)) (hf := fun _ => ?_)
        refine r16_76_26  (k := ?_)
        refine s_isAble16 hG (hA.ls hL) (by omega) (by omega) (by omega) (fun c => ?_) (fun c => ?_)
        · dsimp only [Option.toList_some, List.cons_append, List.nil_append]
          refine r16_76_33  (ht := fun c => absurd c (by decide)) (hf := fun _ => ?_)
          refine r16_76_36  (k := ?_)
          refine s_tadd16 hG0 hL (by have := prN_b (ab := ab) (tg := tg) (P := 5) (by omega) x; have q := prI_b (ab := ab) (tg := tg) (x := x) j; rw [List.length_append]; rcases q with q | q <;> (try rw [q.1]) <;> (try simp) <;> omega) (fun τ hL2 => ?_)
          dsimp only [Option.toList_some, Option.toList_none, List.cons_append, List.nil_append]
          refine r16_76_43  (k := ?_)
          rw [Zadd_nat (by omega)]
          (first | exact ih x (j + 1) τ (by rw [prI_s, if_pos ⟨by omega, by assumption, by assumption⟩, ← List.append_assoc]; exact hL2) (by omega) (by omega) hq | exact ih x (j + 1) σ (by rw [prI_s, if_neg (fun z => absurd z.2.1 (by assumption)), List.append_nil]; exact hL) (by omega) (by omega) hq | exact ih x (j + 1) σ (by rw [prI_s, if_neg (fun z => absurd z.2.2 (by assumption)), List.append_nil]; exact hL) (by omega) (by omega) hq)
        · dsimp only [Option.toList_some, List.cons_append, List.nil_append]
          refine r16_76_33  (ht := fun _ => ?_) (hf := fun c => absurd c (by decide))
          refine r16_76_43  (k := ?_)
          rw [Zadd_nat (by omega)]
          (first | exact ih x (j + 1) τ (by rw [prI_s, if_pos ⟨by omega, by assumption, by assumption⟩, ← List.append_assoc]; exact hL2) (by omega) (by omega) hq | exact ih x (j + 1) σ (by rw [prI_s, if_neg (fun z => absurd z.2.1 (by assumption)), List.append_nil]; exact hL) (by omega) (by omega) hq | exact ih x (j + 1) σ (by rw [prI_s, if_neg (fun z => absurd z.2.2 (by assumption)), List.append_nil]; exact hL) (by omega) (by omega) hq)
      · dsimp only [Option.toList_some, List.cons_append, List.nil_append]
        refine r16_76_23  (ht := fun _ => ?_) (hf := fun c => absurd c (by decide))
        refine r16_76_43  (k := ?_)
        rw [Zadd_nat (by omega)]
        (first | exact ih x (j + 1) τ (by rw [prI_s, if_pos ⟨by omega, by assumption, by assumption⟩, ← List.append_assoc]; exact hL2) (by omega) (by omega) hq | exact ih x (j + 1) σ (by rw [prI_s, if_neg (fun z => absurd z.2.1 (by assumption)), List.append_nil]; exact hL) (by omega) (by omega) hq | exact ih x (j + 1) σ (by rw [prI_s, if_neg (fun z => absurd z.2.2 (by assumption)), List.append_nil]; exact hL) (by omega) (by omega) hq)
set_option maxHeartbeats 2000000 in
theorem l_prN16 {d : Nat} {n : Nat} {Q : Pst} {σ0 : Mem} {ab : Int → Int → Bool} {tg : Int} {hG0 : GR σ0} {hA : AB 16 σ0 ab} {htg : 0 ≤ tg ∧ tg ≤ 9} : ∀ (k : Nat) (j : Nat) (l3 : AV) (σ : Mem), (TmS 16 σ0 σ (prN ab tg 5 j)) → (j ≤ 5) → (5 - j < k) → (∀ τ, TmS 16 σ0 τ (prN ab tg 5 5) → Q none τ n) → EV (d + 1) 76 2 [(19, 16), (0, tg), (0, (j : Int)), l3] [] σ n Q := by
  intro k
  induction k with
  | zero => intros; exfalso; omega
  | succ k ih =>
    intro j l3 σ hL hj hk hq
    have hG : GR σ := hL.GR16 hG0
    refine r16_76_2  (ht := fun c => ?_) (hf := fun c => ?_)
    · skip
      refine r16_76_55  (k := ?_)
      exact hq σ (by rw [show prN ab tg 5 5 = prN ab tg 5 j by rw [show j = 5 by omega]]; exact hL)
    · skip
      refine r16_76_7  (k := ?_)
      rw [Zadd_nat (by omega)]
      refine l_prI16 (hG0 := hG0) (hA := hA) (htg := htg) 6 j (j + 1) σ (by rw [prI_0, List.append_nil]; exact hL) (by omega) (by omega) (fun τ l hL2 => ?_)
      refine r16_76_49 (k := ?_)
      rw [Zadd_nat (by omega)]
      exact ih (j + 1) _ τ hL2 (by omega) (by omega) hq
set_option maxHeartbeats 2000000 in
theorem s_addPairs16 {d : Nat} {σ0 σ : Mem} {n : Nat} {Q : Pst} {ab : Int → Int → Bool} {tg : Int} (hG0 : GR σ0) (hA : AB 16 σ0 ab) (htg : 0 ≤ tg ∧ tg ≤ 9) (hL : TmS 16 σ0 σ []) (k : ∀ τ, TmS 16 σ0 τ (prN ab tg 5 5) → Q none τ n) : EVM (d + 1) 76 [(19, 16), (0, tg)] σ n Q := by
  show EV (d + 1) 76 0 [(19, 16), (0, tg), (9, 0), (9, 0)] [] σ n Q
  refine r16_76_0 (k := ?_)
  exact l_prN16 (hG0 := hG0) (hA := hA) (htg := htg) 6 0 _ σ hL (by omega) (by omega) k
set_option maxHeartbeats 2000000 in
theorem l_rt16 {d : Nat} {σ : Mem} {n : Nat} {Q : Pst} {ab : Int → Int → Bool} {x y tg : Int} (hG : GR σ) (hA : AB 16 σ ab) (htg : 0 ≤ tg ∧ tg ≤ 9) (hx : 0 ≤ x ∧ x ≤ 4) (hy : 0 ≤ y ∧ y ≤ 4) : ∀ (k : Nat), k ≤ 9 → (∀ v, v = rlF ab x y tg k → Q (some (0, v)) σ n) → EV (d + 1) 79 3 [(19, 16), (0, x), (0, y), (0, tg), (0, 10 - (k : Int))] [] σ n Q := by
  intro k
  induction k with
  | zero =>
    intro _ hq
    refine r16_79_3 (ht := fun c => ?_) (hf := fun c => by exfalso; omega)
    exact r16_79_47 (k := hq _ rfl)
  | succ k ih =>
    intro hk hq
    have e9 : (10 : Int) - ((k + 1 : Nat) : Int) = 9 - (k : Int) := by omega
    rw [e9]
    have nx : (¬ (¬ 9 - (k : Int) = tg ∧ (ab x 0 = true ∧ ab x (9 - (k : Int)) = true) ∧ (ab y (9 - (k : Int)) = true ∧ ab y tg = true))) → EV (d + 1) 79 3 [(19, 16), (0, x), (0, y), (0, tg), (0, Zadd (9 - (k : Int)) 1)] [] σ n Q := fun hc => by
      rw [Zadd_eq (by omega) (by omega), show (9 : Int) - k + 1 = 10 - k by omega]
      exact ih (by omega) (fun v hv => hq v (by rw [rlF_s, if_neg hc]; exact hv))
    refine r16_79_3  (ht := fun c => ?_) (hf := fun c => ?_)
    · skip
      exfalso; omega
    · skip
      refine r16_79_10  (ht := fun c => ?_) (hf := fun c => ?_)
      · skip
        refine r16_79_41  (k := ?_)
        exact nx (fun z => by first | exact absurd (by assumption) z.1 | exact absurd z.2.1 (by assumption) | exact absurd z.2.2 (by assumption))
      · skip
        refine r16_79_16  (k := ?_)
        refine s_isAble16 hG hA (by omega) (by omega) (by omega) (fun c => ?_) (fun c => ?_)
        · dsimp only [Option.toList_some, List.cons_append, List.nil_append]
          refine r16_79_24  (ht := fun c => absurd c (by decide)) (hf := fun _ => ?_)
          refine r16_79_27  (k := ?_)
          refine s_isAble16 hG hA (by omega) (by omega) (by omega) (fun c => ?_) (fun c => ?_)
          · dsimp only [Option.toList_some, List.cons_append, List.nil_append]
            refine r16_79_35  (ht := fun c => absurd c (by decide)) (hf := fun _ => ?_)
            refine r16_79_38  (k := ?_)
            exact hq _ (by rw [rlF_s, if_pos ⟨by assumption, by assumption, by assumption⟩])
          · dsimp only [Option.toList_some, List.cons_append, List.nil_append]
            refine r16_79_35  (ht := fun _ => ?_) (hf := fun c => absurd c (by decide))
            refine r16_79_41  (k := ?_)
            exact nx (fun z => by first | exact absurd (by assumption) z.1 | exact absurd z.2.1 (by assumption) | exact absurd z.2.2 (by assumption))
        · dsimp only [Option.toList_some, List.cons_append, List.nil_append]
          refine r16_79_24  (ht := fun _ => ?_) (hf := fun c => absurd c (by decide))
          refine r16_79_41  (k := ?_)
          exact nx (fun z => by first | exact absurd (by assumption) z.1 | exact absurd z.2.1 (by assumption) | exact absurd z.2.2 (by assumption))
set_option maxHeartbeats 2000000 in
theorem s_rt16 {d : Nat} {σ : Mem} {n : Nat} {Q : Pst} {ab : Int → Int → Bool} {x y tg : Int} (hG : GR σ) (hA : AB 16 σ ab) (htg : 0 ≤ tg ∧ tg ≤ 9) (hx : 0 ≤ x ∧ x ≤ 4) (hy : 0 ≤ y ∧ y ≤ 4) (k : ∀ v, v = rlF ab x y tg 9 → Q (some (0, v)) σ n) : EVM (d + 1) 79 [(19, 16), (0, x), (0, y), (0, tg)] σ n Q := by
  show EV (d + 1) 79 0 [(19, 16), (0, x), (0, y), (0, tg), (9, 0)] [] σ n Q
  refine r16_79_0 (k := ?_)
  exact l_rt16 hG hA htg hx hy 9 (by omega) k
set_option maxHeartbeats 2000000 in
theorem l_rlI16 {d : Nat} {n : Nat} {Q : Pst} {σ0 : Mem} {ab : Int → Int → Bool} {tg : Int} {hG0 : GR σ0} {hA : AB 16 σ0 ab} {htg : 0 ≤ tg ∧ tg ≤ 9} : ∀ (k : Nat) (x j : Nat) (l4 : AV) (σ : Mem), (TmS 16 σ0 σ (rlN ab tg 5 x ++ rlI ab tg x j)) → (x < 5 ∧ j ≤ 5) → (5 - j < k) → (∀ τ l l4, TmS 16 σ0 τ (rlN ab tg 5 (x + 1)) → EV (d + 2) 78 52 [(19, 16), (0, tg), (0, (x : Int)), (0, l), l4] [] τ n Q) → EV (d + 2) 78 9 [(19, 16), (0, tg), (0, (x : Int)), (0, (j : Int)), l4] [] σ n Q := by
  intro k
  induction k with
  | zero => intros; exfalso; omega
  | succ k ih =>
    intro x j l4 σ hL hj hk hq
    have hG : GR σ := hL.GR16 hG0
    refine r16_78_9  (ht := fun c => ?_) (hf := fun c => ?_)
    · skip
      exact hq σ _ _ (by rw [rlN_s, show (5 : Nat) = j by omega]; rw [show (5 : Nat) = j by omega] at hL; exact hL)
    · skip
      refine r16_78_14  (ht := fun c => ?_) (hf := fun c => ?_)
      · skip
        refine r16_78_23  (k := ?_)
        refine s_rt16 hG (hA.ls hL) htg (by omega) (by omega) (fun v ev => ?_)
        dsimp only [Option.toList_some, Option.toList_none, List.cons_append, List.nil_append]
        refine r16_78_30  (ht := fun c => ?_) (hf := fun c => ?_)
        · skip
          refine r16_78_46  (k := ?_)
          rw [Zadd_nat (by omega)]
          (first
           | (exfalso; omega)
           | exact ih x (j + 1) _ τ (by rw [rlI_s]; unfold rlX; rw [if_neg (by assumption : ¬ (x : Int) = j), ← ev, if_neg (by assumption), ← List.append_assoc]; exact hL2) (by omega) (by omega) hq
           | exact ih x (j + 1) _ σ (by rw [rlI_s]; unfold rlX; rw [if_neg (by assumption : ¬ (x : Int) = j), ← ev, if_pos (by assumption), List.append_nil]; exact hL) (by omega) (by omega) hq
           | exact ih x (j + 1) _ σ (by rw [rlI_s]; unfold rlX; rw [if_pos (by assumption : (x : Int) = j), if_pos rfl, List.append_nil]; exact hL) (by omega) (by omega) hq)
        · skip
          refine r16_78_38  (k := ?_)
          refine s_tadd16 hG0 hL (by have := rlN_b (ab := ab) (tg := tg) (P := 5) (by omega) x (by omega); have q := rlI_b (ab := ab) (tg := tg) (x := x) j; have hne : ¬ x = j := (by omega); rw [List.length_append]; omega) (fun τ hL2 => ?_)
          dsimp only [Option.toList_some, Option.toList_none, List.cons_append, List.nil_append]
          refine r16_78_46  (k := ?_)
          rw [Zadd_nat (by omega)]
          (first
           | (exfalso; omega)
           | exact ih x (j + 1) _ τ (by rw [rlI_s]; unfold rlX; rw [if_neg (by assumption : ¬ (x : Int) = j), ← ev, if_neg (by assumption), ← List.append_assoc]; exact hL2) (by omega) (by omega) hq
           | exact ih x (j + 1) _ σ (by rw [rlI_s]; unfold rlX; rw [if_neg (by assumption : ¬ (x : Int) = j), ← ev, if_pos (by assumption), List.append_nil]; exact hL) (by omega) (by omega) hq
           | exact ih x (j + 1) _ σ (by rw [rlI_s]; unfold rlX; rw [if_pos (by assumption : (x : Int) = j), if_pos rfl, List.append_nil]; exact hL) (by omega) (by omega) hq)
      · skip
        refine r16_78_19  (ht := fun c => ?_) (hf := fun c => ?_)
        · skip
          refine r16_78_46  (k := ?_)
          rw [Zadd_nat (by omega)]
          (first
           | (exfalso; omega)
           | exact ih x (j + 1) _ τ (by rw [rlI_s]; unfold rlX; rw [if_neg (by assumption : ¬ (x : Int) = j), ← ev, if_neg (by assumption), ← List.append_assoc]; exact hL2) (by omega) (by omega) hq
           | exact ih x (j + 1) _ σ (by rw [rlI_s]; unfold rlX; rw [if_neg (by assumption : ¬ (x : Int) = j), ← ev, if_pos (by assumption), List.append_nil]; exact hL) (by omega) (by omega) hq
           | exact ih x (j + 1) _ σ (by rw [rlI_s]; unfold rlX; rw [if_pos (by assumption : (x : Int) = j), if_pos rfl, List.append_nil]; exact hL) (by omega) (by omega) hq)
        · skip
          refine r16_78_38  (k := ?_)
          refine s_tadd16 hG0 hL (by have := rlN_b (ab := ab) (tg := tg) (P := 5) (by omega) x (by omega); have q := rlI_b (ab := ab) (tg := tg) (x := x) j; have hne : ¬ x = j := (by omega); rw [List.length_append]; omega) (fun τ hL2 => ?_)
          dsimp only [Option.toList_some, Option.toList_none, List.cons_append, List.nil_append]
          refine r16_78_46  (k := ?_)
          rw [Zadd_nat (by omega)]
          (first
           | (exfalso; omega)
           | exact ih x (j + 1) _ τ (by rw [rlI_s]; unfold rlX; rw [if_neg (by assumption : ¬ (x : Int) = j), ← ev, if_neg (by assumption), ← List.append_assoc]; exact hL2) (by omega) (by omega) hq
           | exact ih x (j + 1) _ σ (by rw [rlI_s]; unfold rlX; rw [if_neg (by assumption : ¬ (x : Int) = j), ← ev, if_pos (by assumption), List.append_nil]; exact hL) (by omega) (by omega) hq
           | exact ih x (j + 1) _ σ (by rw [rlI_s]; unfold rlX; rw [if_pos (by assumption : (x : Int) = j), if_pos rfl, List.append_nil]; exact hL) (by omega) (by omega) hq)
set_option maxHeartbeats 2000000 in
theorem l_rlN16 {d : Nat} {n : Nat} {Q : Pst} {σ0 : Mem} {ab : Int → Int → Bool} {tg : Int} {hG0 : GR σ0} {hA : AB 16 σ0 ab} {htg : 0 ≤ tg ∧ tg ≤ 9} : ∀ (k : Nat) (j : Nat) (l3 l4 : AV) (σ : Mem), (TmS 16 σ0 σ (rlN ab tg 5 j)) → (j ≤ 5) → (5 - j < k) → (∀ τ, TmS 16 σ0 τ (rlN ab tg 5 5) → Q none τ n) → EV (d + 2) 78 2 [(19, 16), (0, tg), (0, (j : Int)), l3, l4] [] σ n Q := by
  intro k
  induction k with
  | zero => intros; exfalso; omega
  | succ k ih =>
    intro j l3 l4 σ hL hj hk hq
    have hG : GR σ := hL.GR16 hG0
    refine r16_78_2  (ht := fun c => ?_) (hf := fun c => ?_)
    · skip
      refine r16_78_58  (k := ?_)
      exact hq σ (by rw [show rlN ab tg 5 5 = rlN ab tg 5 j by rw [show j = 5 by omega]]; exact hL)
    · skip
      refine r16_78_7  (k := ?_)
      refine l_rlI16 (hG0 := hG0) (hA := hA) (htg := htg) 6 j 0 _ σ (by rw [show rlI ab tg j 0 = [] from rfl, List.append_nil]; exact hL) (by omega) (by omega) (fun τ l l4 hL2 => ?_)
      refine r16_78_52 (k := ?_)
      rw [Zadd_nat (by omega)]
      exact ih (j + 1) _ _ τ hL2 (by omega) (by omega) hq
set_option maxHeartbeats 2000000 in
theorem s_addRelays16 {d : Nat} {σ0 σ : Mem} {n : Nat} {Q : Pst} {ab : Int → Int → Bool} {tg : Int} (hG0 : GR σ0) (hA : AB 16 σ0 ab) (htg : 0 ≤ tg ∧ tg ≤ 9) (hL : TmS 16 σ0 σ []) (k : ∀ τ, TmS 16 σ0 τ (rlN ab tg 5 5) → Q none τ n) : EVM (d + 2) 78 [(19, 16), (0, tg)] σ n Q := by
  show EV (d + 2) 78 0 [(19, 16), (0, tg), (9, 0), (9, 0), (9, 0)] [] σ n Q
  refine r16_78_0 (k := ?_)
  exact l_rlN16 (hG0 := hG0) (hA := hA) (htg := htg) 6 0 _ _ σ hL (by omega) (by omega) k
