/-! loops that count: hearings of a day, cancelled ones; hearing, move, count -/
def sumN (f : Int → Int) : Nat → Int
  | 0 => 0
  | k + 1 => sumN f k + f k
theorem sumN_s {f : Int → Int} {k : Nat} : sumN f (k + 1) = sumN f k + f k := rfl
theorem sumN_congr {f g : Int → Int} {m : Nat} (h : ∀ i : Nat, i < m → f i = g i) : sumN f m = sumN g m := by
  induction m with
  | zero => rfl
  | succ k ih => rw [sumN_s, sumN_s, ih (fun i hi => h i (by omega)), h k (by omega)]
theorem Zadd_nat {j : Nat} (h : j < 2147483647) : Zadd (j : Int) 1 = ((j + 1 : Nat) : Int) := by
  rw [Zadd_eq (by omega) (by omega)]; omega
set_option maxHeartbeats 2000000 in
theorem l_live {d : Nat} {n : Nat} {Q : Pst} {y b : Int} : ∀ (k : Nat) (j : Nat) (a : Int) (l5 : AV) (σ : Mem), (GR σ) → (DK σ) → (σ 14 1 - j < k) → ((j : Int) ≤ σ 14 1) → (0 ≤ a ∧ a ≤ j) → (a = sumN (fun i => if σ (114 + i) 5 = y ∧ σ (114 + i) 7 = 0 ∧ ¬ 114 + i = b then 1 else 0) j) → (∀ v, v = sumN (fun i => if σ (114 + i) 5 = y ∧ σ (114 + i) 7 = 0 ∧ ¬ 114 + i = b then 1 else 0) (σ 14 1).toNat → Q (some (0, v)) σ n) → EV (d + 1) 12 5 [(11, 14), (0, y), (13, b), (0, a), (0, (j : Int)), l5] [] σ n Q := by
  intro k
  induction k with
  | zero => intros; exfalso; omega
  | succ k ih =>
    intro j a l5 σ hG hD hk hj hb ha hq
    have hD1 := hD.1
    have hD2 := hD.2.1
    refine r_12_5  (ht := fun c => ?_) (hf := fun c => ?_)
    · skip
      refine r_12_59  (k := ?_)
      exact hq _ (by rw [ha, show j = (σ 14 1).toNat by omega])
    · skip
      refine r_12_14  (k := ?_)
      refine s_dget hG hD (fun c => ?_) (fun c => ?_)
      · dsimp only [Option.toList_some, List.cons_append, List.nil_append]
        refine r_12_20  (ht := fun c => ?_) (hf := fun c => ?_)
        · skip
          refine r_12_53  (k := ?_)
          rw [Zadd_nat (by have := hD.2.1; omega)]
          refine ih (j + 1) _ _ σ hG hD (by omega) (by omega) (by first | omega | (rw [Zadd_eq (by omega) (by omega)]; omega)) (by rw [sumN_s, ← ha]; (try dsimp only); first | (rw [Zadd_eq (by omega) (by omega)]; split <;> omega) | (split <;> omega)) hq
        · skip
          refine r_12_27  (ht := fun c => ?_) (hf := fun c => ?_)
          · skip
            refine r_12_53  (k := ?_)
            rw [Zadd_nat (by have := hD.2.1; omega)]
            refine ih (j + 1) _ _ σ hG hD (by omega) (by omega) (by first | omega | (rw [Zadd_eq (by omega) (by omega)]; omega)) (by rw [sumN_s, ← ha]; (try dsimp only); first | (rw [Zadd_eq (by omega) (by omega)]; split <;> omega) | (split <;> omega)) hq
          · skip
            refine r_12_33 (h0 := (by first | omega | (simp (disch := omega) only [Zadd_eq, Zsub_eq, Zmul_eq]; omega))) (ht := fun c => ?_) (hf := fun c => ?_)
            · skip
              refine r_12_53  (k := ?_)
              rw [Zadd_nat (by have := hD.2.1; omega)]
              refine ih (j + 1) _ _ σ hG hD (by omega) (by omega) (by first | omega | (rw [Zadd_eq (by omega) (by omega)]; omega)) (by rw [sumN_s, ← ha]; (try dsimp only); first | (rw [Zadd_eq (by omega) (by omega)]; split <;> omega) | (split <;> omega)) hq
            · skip
              refine r_12_42 (h0 := (by first | omega | (simp (disch := omega) only [Zadd_eq, Zsub_eq, Zmul_eq]; omega))) (ht := fun c => ?_) (hf := fun c => ?_)
              · skip
                refine r_12_53  (k := ?_)
                rw [Zadd_nat (by have := hD.2.1; omega)]
                refine ih (j + 1) _ _ σ hG hD (by omega) (by omega) (by first | omega | (rw [Zadd_eq (by omega) (by omega)]; omega)) (by rw [sumN_s, ← ha]; (try dsimp only); first | (rw [Zadd_eq (by omega) (by omega)]; split <;> omega) | (split <;> omega)) hq
              · skip
                refine r_12_50  (k := ?_)
                rw [Zadd_nat (by have := hD.2.1; omega)]
                refine ih (j + 1) _ _ σ hG hD (by omega) (by omega) (by first | omega | (rw [Zadd_eq (by omega) (by omega)]; omega)) (by rw [sumN_s, ← ha]; (try dsimp only); first | (rw [Zadd_eq (by omega) (by omega)]; split <;> omega) | (split <;> omega)) hq
      · dsimp only [Option.toList_some, List.cons_append, List.nil_append]
        refine r_12_20  (ht := fun c => ?_) (hf := fun c => ?_)
        · skip
          refine r_12_53  (k := ?_)
          rw [Zadd_nat (by have := hD.2.1; omega)]
          refine ih (j + 1) _ _ σ hG hD (by omega) (by omega) (by first | omega | (rw [Zadd_eq (by omega) (by omega)]; omega)) (by rw [sumN_s, ← ha]; (try dsimp only); first | (rw [Zadd_eq (by omega) (by omega)]; split <;> omega) | (split <;> omega)) hq
        · skip
          refine r_12_27  (ht := fun c => ?_) (hf := fun c => ?_)
          · skip
            refine r_12_53  (k := ?_)
            rw [Zadd_nat (by have := hD.2.1; omega)]
            refine ih (j + 1) _ _ σ hG hD (by omega) (by omega) (by first | omega | (rw [Zadd_eq (by omega) (by omega)]; omega)) (by rw [sumN_s, ← ha]; (try dsimp only); first | (rw [Zadd_eq (by omega) (by omega)]; split <;> omega) | (split <;> omega)) hq
          · skip
            refine r_12_33 (h0 := (by first | omega | (simp (disch := omega) only [Zadd_eq, Zsub_eq, Zmul_eq]; omega))) (ht := fun c => ?_) (hf := fun c => ?_)
            · skip
              refine r_12_53  (k := ?_)
              rw [Zadd_nat (by have := hD.2.1; omega)]
              refine ih (j + 1) _ _ σ hG hD (by omega) (by omega) (by first | omega | (rw [Zadd_eq (by omega) (by omega)]; omega)) (by rw [sumN_s, ← ha]; (try dsimp only); first | (rw [Zadd_eq (by omega) (by omega)]; split <;> omega) | (split <;> omega)) hq
            · skip
              refine r_12_42 (h0 := (by first | omega | (simp (disch := omega) only [Zadd_eq, Zsub_eq, Zmul_eq]; omega))) (ht := fun c => ?_) (hf := fun c => ?_)
              · skip
                refine r_12_53  (k := ?_)
                rw [Zadd_nat (by have := hD.2.1; omega)]
                refine ih (j + 1) _ _ σ hG hD (by omega) (by omega) (by first | omega | (rw [Zadd_eq (by omega) (by omega)]; omega)) (by rw [sumN_s, ← ha]; (try dsimp only); first | (rw [Zadd_eq (by omega) (by omega)]; split <;> omega) | (split <;> omega)) hq
              · skip
                refine r_12_50  (k := ?_)
                rw [Zadd_nat (by have := hD.2.1; omega)]
                refine ih (j + 1) _ _ σ hG hD (by omega) (by omega) (by first | omega | (rw [Zadd_eq (by omega) (by omega)]; omega)) (by rw [sumN_s, ← ha]; (try dsimp only); first | (rw [Zadd_eq (by omega) (by omega)]; split <;> omega) | (split <;> omega)) hq
set_option maxHeartbeats 2000000 in
theorem s_liveOn {d : Nat} {σ : Mem} {n : Nat} {Q : Pst} {y b : Int} (hG : GR σ) (hD : DK σ) (k : ∀ v, v = (sumN (fun i => if σ (114 + i) 5 = y ∧ σ (114 + i) 7 = 0 ∧ ¬ 114 + i = b then 1 else 0) (σ 14 1).toNat : Int) → Q (some (0, v)) σ n) : EVM (d + 1) 12 [(11, 14), (0, y), (13, b)] σ n Q := by
  show EV (d + 1) 12 0 [(11, 14), (0, y), (13, b), (9, 0), (9, 0), (9, 0)] [] σ n Q
  refine r_12_0  (k := ?_)
  exact l_live ((σ 14 1).toNat + 1) 0 0 _ σ hG hD (by have := hD.1; omega) (by have := hD.1; omega) (by omega) rfl k
set_option maxHeartbeats 2000000 in
theorem l_ofDay {d : Nat} {n : Nat} {Q : Pst} {y b : Int} : ∀ (k : Nat) (j : Nat) (a : Int) (σ : Mem), (GR σ) → (σ 69 12 ≤ 24) → (σ 69 12 - j < k) → ((j : Int) ≤ σ 69 12) → (0 ≤ a ∧ a ≤ j) → (a = sumN (fun i => if σ 80 i = y ∧ σ 86 i < 0 ∧ ¬ i = b then 1 else 0) j) → (∀ v, v = sumN (fun i => if σ 80 i = y ∧ σ 86 i < 0 ∧ ¬ i = b then 1 else 0) (σ 69 12).toNat → Q (some (0, v)) σ n) → EV d 134 5 [(22, 69), (0, y), (0, b), (0, a), (0, (j : Int))] [] σ n Q := by
  intro k
  induction k with
  | zero => intros; exfalso; omega
  | succ k ih =>
    intro j a σ hG hh hk hj hb ha hq
    refine r_134_5  (ht := fun c => ?_) (hf := fun c => ?_)
    · skip
      refine r_134_55  (k := ?_)
      exact hq _ (by rw [ha, show j = (σ 69 12).toNat by omega])
    · skip
      refine r_134_14  (ht := fun c => ?_) (hf := fun c => ?_)
      · skip
        refine r_134_46  (k := ?_)
        rw [Zadd_nat (by omega)]
        refine ih (j + 1) _ σ hG hh (by omega) (by omega) (by first | omega | (rw [Zadd_eq (by omega) (by omega)]; omega)) (by rw [sumN_s, ← ha]; (try dsimp only); first | (rw [Zadd_eq (by omega) (by omega)]; split <;> omega) | (split <;> omega)) hq
      · skip
        refine r_134_21 (hG := hG) (h0 := (by first | omega | (simp (disch := omega) only [Zadd_eq, Zsub_eq, Zmul_eq]; omega))) (ht := fun c => ?_) (hf := fun c => ?_)
        · skip
          refine r_134_46  (k := ?_)
          rw [Zadd_nat (by omega)]
          refine ih (j + 1) _ σ hG hh (by omega) (by omega) (by first | omega | (rw [Zadd_eq (by omega) (by omega)]; omega)) (by rw [sumN_s, ← ha]; (try dsimp only); first | (rw [Zadd_eq (by omega) (by omega)]; split <;> omega) | (split <;> omega)) hq
        · skip
          refine r_134_32 (hG := hG) (h0 := (by first | omega | (simp (disch := omega) only [Zadd_eq, Zsub_eq, Zmul_eq]; omega))) (ht := fun c => ?_) (hf := fun c => ?_)
          · skip
            refine r_134_46  (k := ?_)
            rw [Zadd_nat (by omega)]
            refine ih (j + 1) _ σ hG hh (by omega) (by omega) (by first | omega | (rw [Zadd_eq (by omega) (by omega)]; omega)) (by rw [sumN_s, ← ha]; (try dsimp only); first | (rw [Zadd_eq (by omega) (by omega)]; split <;> omega) | (split <;> omega)) hq
          · skip
            refine r_134_42  (k := ?_)
            rw [Zadd_nat (by omega)]
            refine ih (j + 1) _ σ hG hh (by omega) (by omega) (by first | omega | (rw [Zadd_eq (by omega) (by omega)]; omega)) (by rw [sumN_s, ← ha]; (try dsimp only); first | (rw [Zadd_eq (by omega) (by omega)]; split <;> omega) | (split <;> omega)) hq
set_option maxHeartbeats 2000000 in
theorem m_ofDay {d : Nat} {σ : Mem} {n : Nat} {Q : Pst} {y b : Int} (hG : GR σ) (hh : 0 ≤ σ 69 12 ∧ σ 69 12 ≤ 24) (k : ∀ v, v = (sumN (fun i => if σ 80 i = y ∧ σ 86 i < 0 ∧ ¬ i = b then 1 else 0) (σ 69 12).toNat : Int) → Q (some (0, v)) σ n) : EVM d 134 [(22, 69), (0, y), (0, b)] σ n Q := by
  show EV d 134 0 [(22, 69), (0, y), (0, b), (9, 0), (9, 0)] [] σ n Q
  refine r_134_0  (k := ?_)
  exact l_ofDay ((σ 69 12).toNat + 1) 0 0 σ hG hh.2 (by omega) (by omega) (by omega) rfl k
set_option maxHeartbeats 2000000 in
theorem l_canc {d : Nat} {n : Nat} {Q : Pst}  : ∀ (k : Nat) (j : Nat) (a : Int) (l3 : AV) (σ : Mem), (GR σ) → (DK σ) → (σ 14 1 - j < k) → ((j : Int) ≤ σ 14 1) → (0 ≤ a ∧ a ≤ j) → (a = sumN (fun i => if ¬ σ (114 + i) 7 = 0 then 1 else 0) j) → (∀ v, v = sumN (fun i => if ¬ σ (114 + i) 7 = 0 then 1 else 0) (σ 14 1).toNat → Q (some (0, v)) σ n) → EV (d + 1) 13 4 [(11, 14), (0, a), (0, (j : Int)), l3] [] σ n Q := by
  intro k
  induction k with
  | zero => intros; exfalso; omega
  | succ k ih =>
    intro j a l3 σ hG hD hk hj hb ha hq
    have hD1 := hD.1
    have hD2 := hD.2.1
    refine r_13_4  (ht := fun c => ?_) (hf := fun c => ?_)
    · skip
      refine r_13_38  (k := ?_)
      exact hq _ (by rw [ha, show j = (σ 14 1).toNat by omega])
    · skip
      refine r_13_12  (k := ?_)
      refine s_dget hG hD (fun c => ?_) (fun c => ?_)
      · dsimp only [Option.toList_some, List.cons_append, List.nil_append]
        refine r_13_17  (ht := fun c => ?_) (hf := fun c => ?_)
        · skip
          refine r_13_32  (k := ?_)
          rw [Zadd_nat (by have := hD.2.1; omega)]
          refine ih (j + 1) _ _ σ hG hD (by omega) (by omega) (by first | omega | (rw [Zadd_eq (by omega) (by omega)]; omega)) (by rw [sumN_s, ← ha]; (try dsimp only); first | (rw [Zadd_eq (by omega) (by omega)]; split <;> omega) | (split <;> omega)) hq
        · skip
          refine r_13_22 (h0 := (by first | omega | (simp (disch := omega) only [Zadd_eq, Zsub_eq, Zmul_eq]; omega))) (ht := fun c => ?_) (hf := fun c => ?_)
          · skip
            refine r_13_32  (k := ?_)
            rw [Zadd_nat (by have := hD.2.1; omega)]
            refine ih (j + 1) _ _ σ hG hD (by omega) (by omega) (by first | omega | (rw [Zadd_eq (by omega) (by omega)]; omega)) (by rw [sumN_s, ← ha]; (try dsimp only); first | (rw [Zadd_eq (by omega) (by omega)]; split <;> omega) | (split <;> omega)) hq
          · skip
            refine r_13_29  (k := ?_)
            rw [Zadd_nat (by have := hD.2.1; omega)]
            refine ih (j + 1) _ _ σ hG hD (by omega) (by omega) (by first | omega | (rw [Zadd_eq (by omega) (by omega)]; omega)) (by rw [sumN_s, ← ha]; (try dsimp only); first | (rw [Zadd_eq (by omega) (by omega)]; split <;> omega) | (split <;> omega)) hq
      · dsimp only [Option.toList_some, List.cons_append, List.nil_append]
        refine r_13_17  (ht := fun c => ?_) (hf := fun c => ?_)
        · skip
          refine r_13_32  (k := ?_)
          rw [Zadd_nat (by have := hD.2.1; omega)]
          refine ih (j + 1) _ _ σ hG hD (by omega) (by omega) (by first | omega | (rw [Zadd_eq (by omega) (by omega)]; omega)) (by rw [sumN_s, ← ha]; (try dsimp only); first | (rw [Zadd_eq (by omega) (by omega)]; split <;> omega) | (split <;> omega)) hq
        · skip
          refine r_13_22 (h0 := (by first | omega | (simp (disch := omega) only [Zadd_eq, Zsub_eq, Zmul_eq]; omega))) (ht := fun c => ?_) (hf := fun c => ?_)
          · skip
            refine r_13_32  (k := ?_)
            rw [Zadd_nat (by have := hD.2.1; omega)]
            refine ih (j + 1) _ _ σ hG hD (by omega) (by omega) (by first | omega | (rw [Zadd_eq (by omega) (by omega)]; omega)) (by rw [sumN_s, ← ha]; (try dsimp only); first | (rw [Zadd_eq (by omega) (by omega)]; split <;> omega) | (split <;> omega)) hq
          · skip
            refine r_13_29  (k := ?_)
            rw [Zadd_nat (by have := hD.2.1; omega)]
            refine ih (j + 1) _ _ σ hG hD (by omega) (by omega) (by first | omega | (rw [Zadd_eq (by omega) (by omega)]; omega)) (by rw [sumN_s, ← ha]; (try dsimp only); first | (rw [Zadd_eq (by omega) (by omega)]; split <;> omega) | (split <;> omega)) hq
set_option maxHeartbeats 2000000 in
theorem s_cancelled {d : Nat} {σ : Mem} {n : Nat} {Q : Pst}  (hG : GR σ) (hD : DK σ) (k : ∀ v, v = (sumN (fun i => if ¬ σ (114 + i) 7 = 0 then 1 else 0) (σ 14 1).toNat : Int) → Q (some (0, v)) σ n) : EVM (d + 1) 13 [(11, 14)] σ n Q := by
  show EV (d + 1) 13 0 [(11, 14), (9, 0), (9, 0), (9, 0)] [] σ n Q
  refine r_13_0  (k := ?_)
  exact l_canc ((σ 14 1).toNat + 1) 0 0 _ σ hG hD (by have := hD.1; omega) (by have := hD.1; omega) (by omega) rfl k
set_option maxHeartbeats 2000000 in
theorem s_count {d : Nat} {σ : Mem} {n : Nat} {Q : Pst} {w T : Int} (hG : GR σ) (hD : DK σ) (hT : σ 0 9 = T) (hT0 : 0 ≤ T) (k : ∀ v, v = (if w = 0 then σ 3 2 else if w = 1 then σ 6 7 else if w = 2 then σ 14 1 else if w = 3 then sumN (fun i => if ¬ σ (114 + i) 7 = 0 then 1 else 0) (σ 14 1).toNat else if w = 4 then σ 52 6 else if w = 5 then σ 50 3 else if w = 6 then σ T 4 else if w = 7 then σ 1 1 else -1 : Int) → Q (some (0, v)) σ n) : EVM (d + 2) 113 [(21, 0), (0, w)] σ n Q := by
  show EV (d + 2) 113 0 [(21, 0), (0, w)] [] σ n Q
  refine r_113_0  (k := ?_)
  rw [lk_cons]
  refine ite_two (fun c => ?_) (fun c => ?_)
  · skip
    refine r_113_48 (hG := hG) (k := ?_)
    exact k _ (by simp only [hT] at *; repeat' split <;> omega)
  · skip
    rw [lk_cons]
    refine ite_two (fun c => ?_) (fun c => ?_)
    · skip
      refine r_113_56 (hG := hG) (k := ?_)
      exact k _ (by simp only [hT] at *; repeat' split <;> omega)
    · skip
      rw [lk_cons]
      refine ite_two (fun c => ?_) (fun c => ?_)
      · skip
        refine r_113_64 (hG := hG) (k := ?_)
        exact k _ (by simp only [hT] at *; repeat' split <;> omega)
      · skip
        rw [lk_cons]
        refine ite_two (fun c => ?_) (fun c => ?_)
        · skip
          refine r_113_72 (hG := hG) (k := ?_)
          refine s_cancelled hG hD (fun v ev => ?_)
          dsimp only [Option.toList_some, Option.toList_none, List.cons_append, List.nil_append]
          refine r_113_79  (k := ?_)
          exact k _ (by simp only [hT] at *; repeat' split <;> omega)
        · skip
          rw [lk_cons]
          refine ite_two (fun c => ?_) (fun c => ?_)
          · skip
            refine r_113_80 (hG := hG) (k := ?_)
            exact k _ (by simp only [hT] at *; repeat' split <;> omega)
          · skip
            rw [lk_cons]
            refine ite_two (fun c => ?_) (fun c => ?_)
            · skip
              refine r_113_88 (hG := hG) (k := ?_)
              exact k _ (by simp only [hT] at *; repeat' split <;> omega)
            · skip
              rw [lk_cons]
              refine ite_two (fun c => ?_) (fun c => ?_)
              · skip
                refine r_113_96 (h0 := (by rw [hT]; exact hT0)) (k := ?_)
                exact k _ (by simp only [hT] at *; repeat' split <;> omega)
              · skip
                rw [lk_cons]
                refine ite_two (fun c => ?_) (fun c => ?_)
                · skip
                  refine r_113_104 (hG := hG) (k := ?_)
                  exact k _ (by simp only [hT] at *; repeat' split <;> omega)
                · skip
                  rw [lk_nil]
                  refine r_113_112  (k := ?_)
                  exact k _ (by simp only [hT] at *; repeat' split <;> omega)
set_option maxHeartbeats 2000000 in
theorem l_countm {d : Nat} {n : Nat} {Q : Pst} {w : Int} : ∀ (k : Nat) (j : Nat) (a : Int) (σ : Mem), (GR σ) → (σ 69 12 ≤ 24) → (σ 69 12 - j < k) → ((j : Int) ≤ σ 69 12) → (0 ≤ a ∧ a ≤ j) → (a = sumN (fun i => if 0 ≤ σ 86 i then 1 else 0) j) → (∀ v, v = sumN (fun i => if 0 ≤ σ 86 i then 1 else 0) (σ 69 12).toNat → Q (some (0, v)) σ n) → EV d 177 65 [(22, 69), (0, w), (0, a), (0, (j : Int))] [] σ n Q := by
  intro k
  induction k with
  | zero => intros; exfalso; omega
  | succ k ih =>
    intro j a σ hG hh hk hj hb ha hq
    refine r_177_65  (ht := fun c => ?_) (hf := fun c => ?_)
    · skip
      refine r_177_96  (k := ?_)
      exact hq _ (by rw [ha, show j = (σ 69 12).toNat by omega])
    · skip
      refine r_177_73 (hG := hG) (h0 := (by first | omega | (simp (disch := omega) only [Zadd_eq, Zsub_eq, Zmul_eq]; omega))) (ht := fun c => ?_) (hf := fun c => ?_)
      · skip
        refine r_177_87  (k := ?_)
        rw [Zadd_nat (by omega)]
        refine ih (j + 1) _ σ hG hh (by omega) (by omega) (by first | omega | (rw [Zadd_eq (by omega) (by omega)]; omega)) (by rw [sumN_s, ← ha]; (try dsimp only); first | (rw [Zadd_eq (by omega) (by omega)]; split <;> omega) | (split <;> omega)) hq
      · skip
        refine r_177_83  (k := ?_)
        rw [Zadd_nat (by omega)]
        refine ih (j + 1) _ σ hG hh (by omega) (by omega) (by first | omega | (rw [Zadd_eq (by omega) (by omega)]; omega)) (by rw [sumN_s, ← ha]; (try dsimp only); first | (rw [Zadd_eq (by omega) (by omega)]; split <;> omega) | (split <;> omega)) hq
set_option maxHeartbeats 2000000 in
theorem m_count {d : Nat} {σ : Mem} {n : Nat} {Q : Pst} {w : Int} (hG : GR σ) (hh : 0 ≤ σ 69 12 ∧ σ 69 12 ≤ 24) (k : ∀ v, v = (if w = 0 then σ 69 2 else if w = 1 then σ 69 4 else if w = 2 then σ 69 12 else if w = 3 then sumN (fun i => if 0 ≤ σ 86 i then 1 else 0) (σ 69 12).toNat else if w = 4 then σ 69 55 else if w = 5 then σ 69 40 else if w = 6 then σ 69 43 else if w = 7 then σ 69 11 else -1 : Int) → Q (some (0, v)) σ n) : EVM d 177 [(22, 69), (0, w)] σ n Q := by
  show EV d 177 0 [(22, 69), (0, w), (9, 0), (9, 0)] [] σ n Q
  refine r_177_0  (k := ?_)
  rw [lk_cons]
  refine ite_two (fun c => ?_) (fun c => ?_)
  · skip
    refine r_177_48  (k := ?_)
    exact k _ (by repeat' split <;> omega)
  · skip
    rw [lk_cons]
    refine ite_two (fun c => ?_) (fun c => ?_)
    · skip
      refine r_177_53  (k := ?_)
      exact k _ (by repeat' split <;> omega)
    · skip
      rw [lk_cons]
      refine ite_two (fun c => ?_) (fun c => ?_)
      · skip
        refine r_177_58  (k := ?_)
        exact k _ (by repeat' split <;> omega)
      · skip
        rw [lk_cons]
        refine ite_two (fun c => ?_) (fun c => ?_)
        · skip
          refine r_177_63  (k := ?_)
          exact l_countm ((σ 69 12).toNat + 1) 0 0 σ hG hh.2 (by omega) (by omega) (by omega) rfl (fun v hv => k v (by rw [hv]; repeat' split <;> omega))
        · skip
          rw [lk_cons]
          refine ite_two (fun c => ?_) (fun c => ?_)
          · skip
            refine r_177_98  (k := ?_)
            exact k _ (by repeat' split <;> omega)
          · skip
            rw [lk_cons]
            refine ite_two (fun c => ?_) (fun c => ?_)
            · skip
              refine r_177_103  (k := ?_)
              exact k _ (by repeat' split <;> omega)
            · skip
              rw [lk_cons]
              refine ite_two (fun c => ?_) (fun c => ?_)
              · skip
                refine r_177_108  (k := ?_)
                exact k _ (by repeat' split <;> omega)
              · skip
                rw [lk_cons]
                refine ite_two (fun c => ?_) (fun c => ?_)
                · skip
                  refine r_177_113  (k := ?_)
                  exact k _ (by repeat' split <;> omega)
                · skip
                  rw [lk_nil]
                  refine r_177_118  (k := ?_)
                  exact k _ (by repeat' split <;> omega)
set_option maxHeartbeats 2000000 in
theorem s_move {d : Nat} {σ : Mem} {n : Nat} {Q : Pst} {h y b : Int} (hG : GR σ) (hD : DK σ) (hv : (0 ≤ h ∧ h < σ 14 1) ∧ σ (114 + h) 7 = 0 ∧ ((0 ≤ y ∧ y ≤ 999) ∧ (0 ≤ b ∧ b ≤ 1439) ∧ (10 ≤ σ (114 + h) 1 ∧ σ (114 + h) 1 ≤ 240) ∧ b + σ (114 + h) 1 ≤ 1440) ∧ sumN (fun i => if σ (114 + i) 5 = y ∧ σ (114 + i) 7 = 0 ∧ ¬ 114 + i = 114 + h then 1 else 0) (σ 14 1).toNat < 4 → Q (some (0, 1)) (wrM (wrM σ (114 + h) 5 y) (114 + h) 6 b) n) (hn : ¬ ((0 ≤ h ∧ h < σ 14 1) ∧ σ (114 + h) 7 = 0 ∧ ((0 ≤ y ∧ y ≤ 999) ∧ (0 ≤ b ∧ b ≤ 1439) ∧ (10 ≤ σ (114 + h) 1 ∧ σ (114 + h) 1 ≤ 240) ∧ b + σ (114 + h) 1 ≤ 1440) ∧ sumN (fun i => if σ (114 + i) 5 = y ∧ σ (114 + i) 7 = 0 ∧ ¬ 114 + i = 114 + h then 1 else 0) (σ 14 1).toNat < 4) → Q (some (0, 0)) σ n) : EVM (d + 3) 95 [(21, 0), (0, h), (0, y), (0, b)] σ n Q := by
  show EV (d + 3) 95 0 [(21, 0), (0, h), (0, y), (0, b), (9, 0)] [] σ n Q
  refine r_95_0 (hG := hG) (k := ?_)
  refine s_dget hG hD (fun c => ?_) (fun c => ?_)
  · dsimp only [Option.toList_some, List.cons_append, List.nil_append]
    refine r_95_8  (ht := fun c => ?_) (hf := fun c => ?_)
    · skip
      refine r_95_50  (k := ?_)
      (first | exact hn (by omega) | exact hv (by omega) | (exfalso; omega) | (refine hv ?_; omega))
    · skip
      refine r_95_15 (h0 := (by first | omega | (simp (disch := omega) only [Zadd_eq, Zsub_eq, Zmul_eq]; omega))) (ht := fun c => ?_) (hf := fun c => ?_)
      · skip
        refine r_95_50  (k := ?_)
        (first | exact hn (by omega) | exact hv (by omega) | (exfalso; omega) | (refine hv ?_; omega))
      · skip
        refine r_95_23 (h0 := (by first | omega | (simp (disch := omega) only [Zadd_eq, Zsub_eq, Zmul_eq]; omega))) (k := ?_)
        refine s_isSpan (fun c => ?_) (fun c => ?_)
        · dsimp only [Option.toList_some, List.cons_append, List.nil_append]
          refine r_95_33  (ht := fun c => absurd c (by decide)) (hf := fun _ => ?_)
          refine r_95_36 (hG := hG) (k := ?_)
          refine s_liveOn hG hD (fun v ev => ?_)
          dsimp only [Option.toList_some, Option.toList_none, List.cons_append, List.nil_append]
          refine r_95_46  (ht := fun c => ?_) (hf := fun c => ?_)
          · skip
            refine r_95_52 (h0 := (by first | omega | (simp (disch := omega) only [Zadd_eq, Zsub_eq, Zmul_eq]; omega))) (k := ?_)
            (first | exact hn (by omega) | exact hv (by omega) | (exfalso; omega) | (refine hv ?_; omega))
          · skip
            refine r_95_50  (k := ?_)
            (first | exact hn (by omega) | exact hv (by omega) | (exfalso; omega) | (refine hv ?_; omega))
        · dsimp only [Option.toList_some, List.cons_append, List.nil_append]
          refine r_95_33  (ht := fun _ => ?_) (hf := fun c => absurd c (by decide))
          refine r_95_50  (k := ?_)
          (first | exact hn (by omega) | exact hv (by omega) | (exfalso; omega) | (refine hv ?_; omega))
  · dsimp only [Option.toList_some, List.cons_append, List.nil_append]
    refine r_95_8  (ht := fun c => ?_) (hf := fun c => ?_)
    · skip
      refine r_95_50  (k := ?_)
      (first | exact hn (by omega) | exact hv (by omega) | (exfalso; omega) | (refine hv ?_; omega))
    · skip
      refine r_95_15 (h0 := (by first | omega | (simp (disch := omega) only [Zadd_eq, Zsub_eq, Zmul_eq]; omega))) (ht := fun c => ?_) (hf := fun c => ?_)
      · skip
        refine r_95_50  (k := ?_)
        (first | exact hn (by omega) | exact hv (by omega) | (exfalso; omega) | (refine hv ?_; omega))
      · skip
        refine r_95_23 (h0 := (by first | omega | (simp (disch := omega) only [Zadd_eq, Zsub_eq, Zmul_eq]; omega))) (k := ?_)
        refine s_isSpan (fun c => ?_) (fun c => ?_)
        · dsimp only [Option.toList_some, List.cons_append, List.nil_append]
          refine r_95_33  (ht := fun c => absurd c (by decide)) (hf := fun _ => ?_)
          refine r_95_36 (hG := hG) (k := ?_)
          refine s_liveOn hG hD (fun v ev => ?_)
          dsimp only [Option.toList_some, Option.toList_none, List.cons_append, List.nil_append]
          refine r_95_46  (ht := fun c => ?_) (hf := fun c => ?_)
          · skip
            refine r_95_52 (h0 := (by first | omega | (simp (disch := omega) only [Zadd_eq, Zsub_eq, Zmul_eq]; omega))) (k := ?_)
            (first | exact hn (by omega) | exact hv (by omega) | (exfalso; omega) | (refine hv ?_; omega))
          · skip
            refine r_95_50  (k := ?_)
            (first | exact hn (by omega) | exact hv (by omega) | (exfalso; omega) | (refine hv ?_; omega))
        · dsimp only [Option.toList_some, List.cons_append, List.nil_append]
          refine r_95_33  (ht := fun _ => ?_) (hf := fun c => absurd c (by decide))
          refine r_95_50  (k := ?_)
          (first | exact hn (by omega) | exact hv (by omega) | (exfalso; omega) | (refine hv ?_; omega))
set_option maxHeartbeats 2000000 in
theorem m_move {d : Nat} {σ : Mem} {n : Nat} {Q : Pst} {h y b : Int} (hG : GR σ) (hh : 0 ≤ σ 69 12 ∧ σ 69 12 ≤ 24) (hz : Zsub (σ 69 12) 1 = σ 69 12 - 1) (hl : 0 ≤ h ∧ h < σ 69 12 → 0 ≤ σ 82 h ∧ σ 82 h ≤ 240) (hv : (0 ≤ h ∧ h < σ 69 12) ∧ σ 86 h < 0 ∧ ((0 ≤ y ∧ y ≤ 999) ∧ (0 ≤ b ∧ b ≤ 1439) ∧ b + σ 82 h ≤ 1440) ∧ sumN (fun i => if σ 80 i = y ∧ σ 86 i < 0 ∧ ¬ i = h then 1 else 0) (σ 69 12).toNat < 4 → Q (some (0, 1)) (wrM (wrM σ 80 h y) 81 h b) n) (hn : ¬ ((0 ≤ h ∧ h < σ 69 12) ∧ σ 86 h < 0 ∧ ((0 ≤ y ∧ y ≤ 999) ∧ (0 ≤ b ∧ b ≤ 1439) ∧ b + σ 82 h ≤ 1440) ∧ sumN (fun i => if σ 80 i = y ∧ σ 86 i < 0 ∧ ¬ i = h then 1 else 0) (σ 69 12).toNat < 4) → Q (some (0, 0)) σ n) : EVM (d + 2) 137 [(22, 69), (0, h), (0, y), (0, b)] σ n Q := by
  show EV (d + 2) 137 0 [(22, 69), (0, h), (0, y), (0, b)] [] σ n Q
  refine r_137_0  (k := ?_)
  refine m_isHearing (fun c => ?_) (fun c => ?_)
  · dsimp only [Option.toList_some, List.cons_append, List.nil_append]
    refine r_137_5  (ht := fun c => absurd c (by decide)) (hf := fun _ => ?_)
    refine r_137_8 (hG := hG) (h0 := (by first | omega | (rw [hz] at *; omega))) (ht := fun c => ?_) (hf := fun c => ?_)
    · skip
      refine r_137_59  (k := ?_)
      (first | exact hn (by omega) | exact hv (by omega) | (have := hl (by omega); have e := Zadd_eq (a := b) (b := σ 82 h) (by omega) (by omega); first | exact hn (by omega) | exact hv (by omega)))
    · skip
      refine r_137_17  (k := ?_)
      refine m_isDay (fun c => ?_) (fun c => ?_)
      · dsimp only [Option.toList_some, List.cons_append, List.nil_append]
        refine r_137_21  (ht := fun c => absurd c (by decide)) (hf := fun _ => ?_)
        refine r_137_24  (k := ?_)
        refine m_in (fun c => ?_) (fun c => ?_)
        · dsimp only [Option.toList_some, List.cons_append, List.nil_append]
          refine r_137_32  (ht := fun c => absurd c (by decide)) (hf := fun _ => ?_)
          refine r_137_35 (hG := hG) (h0 := (by first | omega | (rw [hz] at *; omega))) (ht := fun c => ?_) (hf := fun c => ?_)
          · skip
            refine r_137_59  (k := ?_)
            (first | exact hn (by omega) | exact hv (by omega) | (have := hl (by omega); have e := Zadd_eq (a := b) (b := σ 82 h) (by omega) (by omega); first | exact hn (by omega) | exact hv (by omega)))
          · skip
            refine r_137_49  (k := ?_)
            refine m_ofDay hG hh (fun v ev => ?_)
            dsimp only [Option.toList_some, Option.toList_none, List.cons_append, List.nil_append]
            refine r_137_55  (ht := fun c => ?_) (hf := fun c => ?_)
            · skip
              refine r_137_61 (hG := hG) (h0 := (by first | omega | (rw [hz] at *; omega))) (k := ?_)
              (first | exact hn (by omega) | exact hv (by omega) | (have := hl (by omega); have e := Zadd_eq (a := b) (b := σ 82 h) (by omega) (by omega); first | exact hn (by omega) | exact hv (by omega)))
            · skip
              refine r_137_59  (k := ?_)
              (first | exact hn (by omega) | exact hv (by omega) | (have := hl (by omega); have e := Zadd_eq (a := b) (b := σ 82 h) (by omega) (by omega); first | exact hn (by omega) | exact hv (by omega)))
        · dsimp only [Option.toList_some, List.cons_append, List.nil_append]
          refine r_137_32  (ht := fun _ => ?_) (hf := fun c => absurd c (by decide))
          refine r_137_59  (k := ?_)
          (first | exact hn (by omega) | exact hv (by omega) | (have := hl (by omega); have e := Zadd_eq (a := b) (b := σ 82 h) (by omega) (by omega); first | exact hn (by omega) | exact hv (by omega)))
      · dsimp only [Option.toList_some, List.cons_append, List.nil_append]
        refine r_137_21  (ht := fun _ => ?_) (hf := fun c => absurd c (by decide))
        refine r_137_59  (k := ?_)
        (first | exact hn (by omega) | exact hv (by omega) | (have := hl (by omega); have e := Zadd_eq (a := b) (b := σ 82 h) (by omega) (by omega); first | exact hn (by omega) | exact hv (by omega)))
  · dsimp only [Option.toList_some, List.cons_append, List.nil_append]
    refine r_137_5  (ht := fun _ => ?_) (hf := fun c => absurd c (by decide))
    refine r_137_59  (k := ?_)
    (first | exact hn (by omega) | exact hv (by omega) | (have := hl (by omega); have e := Zadd_eq (a := b) (b := σ 82 h) (by omega) (by omega); first | exact hn (by omega) | exact hv (by omega)))
