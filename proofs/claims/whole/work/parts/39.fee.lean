/-! fee, teams, team -/
/-- what one hearing earns -/
def eaX (tl : Int → Int) (len gr s2 w2 : Int) (cn : Prop) [Decidable cn] (ah : Int) : Int :=
  if cn then (if ah < tl 4 then Zldiv (Zlmul (if s2 = -1 then Zldiv (Zlmul (mx len (tl 0)) (tl (10 + gr))) 60 else Zldiv (Zlmul (Zldiv (Zlmul (mx len (tl 0)) (tl (10 + gr))) 60) (tl w2)) 100) (tl 5)) 100 else 0)
  else (if s2 = -1 then Zldiv (Zlmul (mx len (tl 0)) (tl (10 + gr))) 60 else Zldiv (Zlmul (Zldiv (Zlmul (mx len (tl 0)) (tl (10 + gr))) 60) (tl w2)) 100)
theorem mx_r {a b : Int} (h : a ≤ b) : mx a b = b := by unfold mx; split <;> omega
theorem mx_l {a b : Int} (h : b ≤ a) : mx a b = a := by unfold mx; split <;> omega
def feN (p : Int → Bool) (e : Int → Int) : Nat → Int
  | 0 => 0
  | k + 1 => if p k = true then Zladd (feN p e k) (e k) else feN p e k
theorem feN_s {p : Int → Bool} {e : Int → Int} {k : Nat} : feN p e (k + 1) = if p k = true then Zladd (feN p e k) (e k) else feN p e k := rfl
theorem feN_congr {p q : Int → Bool} {e f : Int → Int} (k : Nat) (h : ∀ i : Nat, i < k → p i = q i ∧ (p i = true → e i = f i)) : feN p e k = feN q f k := by
  induction k with
  | zero => rfl
  | succ k ih =>
    obtain ⟨h1, h2⟩ := h k (by omega)
    rw [feN_s, feN_s, ih (fun i hi => h i (by omega)), ← h1]
    split
    · rename_i c; rw [h2 c]
    · rfl
theorem feN_r {p : Int → Bool} {e : Int → Int} (k : Nat) : ∃ y : Int64, feN p e k = y.toInt := by
  induction k with
  | zero => exact ⟨0, rfl⟩
  | succ k ih =>
    rw [feN_s]
    split
    · exact ⟨_, rfl⟩
    · exact ih
theorem Zladd_0 {x : Int} (h : ∃ y : Int64, x = y.toInt) : Zladd x 0 = x := by
  obtain ⟨y, rfl⟩ := h
  unfold Zladd
  rw [Int64.ofInt_toInt, show Int64.ofInt 0 = 0 from rfl, Int64.add_zero]
theorem Zdiv10 {t : Int} (h : 0 ≤ t) (h2 : t ≤ 3000) : Zdiv t 10 = Zldiv t 10 := by
  unfold Zdiv Zldiv
  rw [Int32.toInt_div_of_ne_right _ _ (by decide), Int64.toInt_div_of_ne_right _ _ (by decide), o32 (v := t) (by unfold in32; omega), o64 (v := t) (by unfold in64; omega)]
  rfl
set_option maxHeartbeats 2000000 in
theorem s_earned59 {d : Nat} {σ : Mem} {n : Nat} {Q : Pst} {H : Int} (hG : GR σ) (hH : 0 ≤ H) (hgr : 1 ≤ σ H 4 ∧ σ H 4 ≤ 5) (hh : 0 ≤ σ 59 4 ∧ σ 59 4 ≤ 60) (k : ∀ v, v = eaX (tlC σ 59 (σ H 5)) (σ H 1) (σ H 4) (σ H 10) (if 90 < σ H 1 then 2 else 3) (¬ σ H 7 = 0) (σ H 8) → Q (some (2, v)) σ n) : EVM (d + 1) 17 [(12, 59), (13, H)] σ n Q := by
  show EV (d + 1) 17 0 [(12, 59), (13, H), (9, 0), (9, 0), (9, 0), (9, 0), (9, 0)] [] σ n Q
  refine r59_17_0 (h0 := (by first | omega | decide)) (k := ?_)
  refine s_told (T := 59) (Or.inl rfl) hG hh (fun v ev => ?_)
  dsimp only [Option.toList_some, Option.toList_none, List.cons_append, List.nil_append]
  refine r59_17_15 (h0 := (by first | omega | decide)) (k := ?_)
  refine s_told (T := 59) (Or.inl rfl) hG hh (fun v ev => ?_)
  dsimp only [Option.toList_some, Option.toList_none, List.cons_append, List.nil_append]
  refine r59_17_33 (h0 := (by first | omega | decide)) (ht := fun c => ?_) (hf := fun c => ?_)
  · skip
    refine r59_17_76 (h0 := (by first | omega | decide)) (ht := fun c => ?_) (hf := fun c => ?_)
    · skip
      refine r59_17_86 (h0 := (by first | omega | decide)) (k := ?_)
      refine s_told (T := 59) (Or.inl rfl) hG hh (fun v ev => ?_)
      dsimp only [Option.toList_some, Option.toList_none, List.cons_append, List.nil_append]
      refine r59_17_96  (ht := fun c => ?_) (hf := fun c => ?_)
      · skip
        refine r59_17_116  (k := ?_)
        (try simp only [show Zadd 10 (σ H 4) = 10 + σ H 4 from Zadd_eq (by omega) (by omega)] at *)
        refine k _ ?_
        subst_vars
        unfold eaX mx
        (repeat' split) <;> first | (exfalso; omega) | rfl
      · skip
        refine r59_17_99  (k := ?_)
        refine s_told (T := 59) (Or.inl rfl) hG hh (fun v ev => ?_)
        dsimp only [Option.toList_some, Option.toList_none, List.cons_append, List.nil_append]
        refine r59_17_107  (k := ?_)
        (try simp only [show Zadd 10 (σ H 4) = 10 + σ H 4 from Zadd_eq (by omega) (by omega)] at *)
        refine k _ ?_
        subst_vars
        unfold eaX mx
        (repeat' split) <;> first | (exfalso; omega) | rfl
    · skip
      refine r59_17_83  (k := ?_)
      (try simp only [show Zadd 10 (σ H 4) = 10 + σ H 4 from Zadd_eq (by omega) (by omega)] at *)
      refine k _ ?_
      subst_vars
      unfold eaX mx
      (repeat' split) <;> first | (exfalso; omega) | rfl
  · skip
    refine r59_17_49 (h0 := (by first | omega | decide)) (k := ?_)
    refine s_isLong hH (fun c => ?_) (fun c => ?_)
    · dsimp only [Option.toList_some, List.cons_append, List.nil_append]
      refine r59_17_57  (ht := fun c => absurd c (by decide)) (hf := fun _ => ?_)
      refine r59_17_60 (h0 := (by first | omega | decide)) (k := ?_)
      refine s_told (T := 59) (Or.inl rfl) hG hh (fun v ev => ?_)
      dsimp only [Option.toList_some, Option.toList_none, List.cons_append, List.nil_append]
      refine r59_17_68 (h0 := (by first | omega | decide)) (ht := fun c => ?_) (hf := fun c => ?_)
      · skip
        refine r59_17_86 (h0 := (by first | omega | decide)) (k := ?_)
        refine s_told (T := 59) (Or.inl rfl) hG hh (fun v ev => ?_)
        dsimp only [Option.toList_some, Option.toList_none, List.cons_append, List.nil_append]
        refine r59_17_96  (ht := fun c => ?_) (hf := fun c => ?_)
        · skip
          refine r59_17_116  (k := ?_)
          (try simp only [show Zadd 10 (σ H 4) = 10 + σ H 4 from Zadd_eq (by omega) (by omega)] at *)
          refine k _ ?_
          subst_vars
          unfold eaX mx
          (repeat' split) <;> first | (exfalso; omega) | rfl
        · skip
          refine r59_17_99  (k := ?_)
          refine s_told (T := 59) (Or.inl rfl) hG hh (fun v ev => ?_)
          dsimp only [Option.toList_some, Option.toList_none, List.cons_append, List.nil_append]
          refine r59_17_107  (k := ?_)
          (try simp only [show Zadd 10 (σ H 4) = 10 + σ H 4 from Zadd_eq (by omega) (by omega)] at *)
          refine k _ ?_
          subst_vars
          unfold eaX mx
          (repeat' split) <;> first | (exfalso; omega) | rfl
      · skip
        refine r59_17_83  (k := ?_)
        (try simp only [show Zadd 10 (σ H 4) = 10 + σ H 4 from Zadd_eq (by omega) (by omega)] at *)
        refine k _ ?_
        subst_vars
        unfold eaX mx
        (repeat' split) <;> first | (exfalso; omega) | rfl
    · dsimp only [Option.toList_some, List.cons_append, List.nil_append]
      refine r59_17_57  (ht := fun _ => ?_) (hf := fun c => absurd c (by decide))
      refine r59_17_64 (h0 := (by first | omega | decide)) (k := ?_)
      refine s_told (T := 59) (Or.inl rfl) hG hh (fun v ev => ?_)
      dsimp only [Option.toList_some, Option.toList_none, List.cons_append, List.nil_append]
      refine r59_17_68 (h0 := (by first | omega | decide)) (ht := fun c => ?_) (hf := fun c => ?_)
      · skip
        refine r59_17_86 (h0 := (by first | omega | decide)) (k := ?_)
        refine s_told (T := 59) (Or.inl rfl) hG hh (fun v ev => ?_)
        dsimp only [Option.toList_some, Option.toList_none, List.cons_append, List.nil_append]
        refine r59_17_96  (ht := fun c => ?_) (hf := fun c => ?_)
        · skip
          refine r59_17_116  (k := ?_)
          (try simp only [show Zadd 10 (σ H 4) = 10 + σ H 4 from Zadd_eq (by omega) (by omega)] at *)
          refine k _ ?_
          subst_vars
          unfold eaX mx
          (repeat' split) <;> first | (exfalso; omega) | rfl
        · skip
          refine r59_17_99  (k := ?_)
          refine s_told (T := 59) (Or.inl rfl) hG hh (fun v ev => ?_)
          dsimp only [Option.toList_some, Option.toList_none, List.cons_append, List.nil_append]
          refine r59_17_107  (k := ?_)
          (try simp only [show Zadd 10 (σ H 4) = 10 + σ H 4 from Zadd_eq (by omega) (by omega)] at *)
          refine k _ ?_
          subst_vars
          unfold eaX mx
          (repeat' split) <;> first | (exfalso; omega) | rfl
      · skip
        refine r59_17_83  (k := ?_)
        (try simp only [show Zadd 10 (σ H 4) = 10 + σ H 4 from Zadd_eq (by omega) (by omega)] at *)
        refine k _ ?_
        subst_vars
        unfold eaX mx
        (repeat' split) <;> first | (exfalso; omega) | rfl
set_option maxHeartbeats 2000000 in
theorem s_earned64 {d : Nat} {σ : Mem} {n : Nat} {Q : Pst} {H : Int} (hG : GR σ) (hH : 0 ≤ H) (hgr : 1 ≤ σ H 4 ∧ σ H 4 ≤ 5) (hh : 0 ≤ σ 64 4 ∧ σ 64 4 ≤ 60) (k : ∀ v, v = eaX (tlC σ 64 (σ H 5)) (σ H 1) (σ H 4) (σ H 10) (if 90 < σ H 1 then 2 else 3) (¬ σ H 7 = 0) (σ H 8) → Q (some (2, v)) σ n) : EVM (d + 1) 17 [(12, 64), (13, H)] σ n Q := by
  show EV (d + 1) 17 0 [(12, 64), (13, H), (9, 0), (9, 0), (9, 0), (9, 0), (9, 0)] [] σ n Q
  refine r64_17_0 (h0 := (by first | omega | decide)) (k := ?_)
  refine s_told (T := 64) (Or.inr rfl) hG hh (fun v ev => ?_)
  dsimp only [Option.toList_some, Option.toList_none, List.cons_append, List.nil_append]
  refine r64_17_15 (h0 := (by first | omega | decide)) (k := ?_)
  refine s_told (T := 64) (Or.inr rfl) hG hh (fun v ev => ?_)
  dsimp only [Option.toList_some, Option.toList_none, List.cons_append, List.nil_append]
  refine r64_17_33 (h0 := (by first | omega | decide)) (ht := fun c => ?_) (hf := fun c => ?_)
  · skip
    refine r64_17_76 (h0 := (by first | omega | decide)) (ht := fun c => ?_) (hf := fun c => ?_)
    · skip
      refine r64_17_86 (h0 := (by first | omega | decide)) (k := ?_)
      refine s_told (T := 64) (Or.inr rfl) hG hh (fun v ev => ?_)
      dsimp only [Option.toList_some, Option.toList_none, List.cons_append, List.nil_append]
      refine r64_17_96  (ht := fun c => ?_) (hf := fun c => ?_)
      · skip
        refine r64_17_116  (k := ?_)
        (try simp only [show Zadd 10 (σ H 4) = 10 + σ H 4 from Zadd_eq (by omega) (by omega)] at *)
        refine k _ ?_
        subst_vars
        unfold eaX mx
        (repeat' split) <;> first | (exfalso; omega) | rfl
      · skip
        refine r64_17_99  (k := ?_)
        refine s_told (T := 64) (Or.inr rfl) hG hh (fun v ev => ?_)
        dsimp only [Option.toList_some, Option.toList_none, List.cons_append, List.nil_append]
        refine r64_17_107  (k := ?_)
        (try simp only [show Zadd 10 (σ H 4) = 10 + σ H 4 from Zadd_eq (by omega) (by omega)] at *)
        refine k _ ?_
        subst_vars
        unfold eaX mx
        (repeat' split) <;> first | (exfalso; omega) | rfl
    · skip
      refine r64_17_83  (k := ?_)
      (try simp only [show Zadd 10 (σ H 4) = 10 + σ H 4 from Zadd_eq (by omega) (by omega)] at *)
      refine k _ ?_
      subst_vars
      unfold eaX mx
      (repeat' split) <;> first | (exfalso; omega) | rfl
  · skip
    refine r64_17_49 (h0 := (by first | omega | decide)) (k := ?_)
    refine s_isLong hH (fun c => ?_) (fun c => ?_)
    · dsimp only [Option.toList_some, List.cons_append, List.nil_append]
      refine r64_17_57  (ht := fun c => absurd c (by decide)) (hf := fun _ => ?_)
      refine r64_17_60 (h0 := (by first | omega | decide)) (k := ?_)
      refine s_told (T := 64) (Or.inr rfl) hG hh (fun v ev => ?_)
      dsimp only [Option.toList_some, Option.toList_none, List.cons_append, List.nil_append]
      refine r64_17_68 (h0 := (by first | omega | decide)) (ht := fun c => ?_) (hf := fun c => ?_)
      · skip
        refine r64_17_86 (h0 := (by first | omega | decide)) (k := ?_)
        refine s_told (T := 64) (Or.inr rfl) hG hh (fun v ev => ?_)
        dsimp only [Option.toList_some, Option.toList_none, List.cons_append, List.nil_append]
        refine r64_17_96  (ht := fun c => ?_) (hf := fun c => ?_)
        · skip
          refine r64_17_116  (k := ?_)
          (try simp only [show Zadd 10 (σ H 4) = 10 + σ H 4 from Zadd_eq (by omega) (by omega)] at *)
          refine k _ ?_
          subst_vars
          unfold eaX mx
          (repeat' split) <;> first | (exfalso; omega) | rfl
        · skip
          refine r64_17_99  (k := ?_)
          refine s_told (T := 64) (Or.inr rfl) hG hh (fun v ev => ?_)
          dsimp only [Option.toList_some, Option.toList_none, List.cons_append, List.nil_append]
          refine r64_17_107  (k := ?_)
          (try simp only [show Zadd 10 (σ H 4) = 10 + σ H 4 from Zadd_eq (by omega) (by omega)] at *)
          refine k _ ?_
          subst_vars
          unfold eaX mx
          (repeat' split) <;> first | (exfalso; omega) | rfl
      · skip
        refine r64_17_83  (k := ?_)
        (try simp only [show Zadd 10 (σ H 4) = 10 + σ H 4 from Zadd_eq (by omega) (by omega)] at *)
        refine k _ ?_
        subst_vars
        unfold eaX mx
        (repeat' split) <;> first | (exfalso; omega) | rfl
    · dsimp only [Option.toList_some, List.cons_append, List.nil_append]
      refine r64_17_57  (ht := fun _ => ?_) (hf := fun c => absurd c (by decide))
      refine r64_17_64 (h0 := (by first | omega | decide)) (k := ?_)
      refine s_told (T := 64) (Or.inr rfl) hG hh (fun v ev => ?_)
      dsimp only [Option.toList_some, Option.toList_none, List.cons_append, List.nil_append]
      refine r64_17_68 (h0 := (by first | omega | decide)) (ht := fun c => ?_) (hf := fun c => ?_)
      · skip
        refine r64_17_86 (h0 := (by first | omega | decide)) (k := ?_)
        refine s_told (T := 64) (Or.inr rfl) hG hh (fun v ev => ?_)
        dsimp only [Option.toList_some, Option.toList_none, List.cons_append, List.nil_append]
        refine r64_17_96  (ht := fun c => ?_) (hf := fun c => ?_)
        · skip
          refine r64_17_116  (k := ?_)
          (try simp only [show Zadd 10 (σ H 4) = 10 + σ H 4 from Zadd_eq (by omega) (by omega)] at *)
          refine k _ ?_
          subst_vars
          unfold eaX mx
          (repeat' split) <;> first | (exfalso; omega) | rfl
        · skip
          refine r64_17_99  (k := ?_)
          refine s_told (T := 64) (Or.inr rfl) hG hh (fun v ev => ?_)
          dsimp only [Option.toList_some, Option.toList_none, List.cons_append, List.nil_append]
          refine r64_17_107  (k := ?_)
          (try simp only [show Zadd 10 (σ H 4) = 10 + σ H 4 from Zadd_eq (by omega) (by omega)] at *)
          refine k _ ?_
          subst_vars
          unfold eaX mx
          (repeat' split) <;> first | (exfalso; omega) | rfl
      · skip
        refine r64_17_83  (k := ?_)
        (try simp only [show Zadd 10 (σ H 4) = 10 + σ H 4 from Zadd_eq (by omega) (by omega)] at *)
        refine k _ ?_
        subst_vars
        unfold eaX mx
        (repeat' split) <;> first | (exfalso; omega) | rfl
set_option maxHeartbeats 2000000 in
theorem s_earned {d : Nat} {σ : Mem} {n : Nat} {Q : Pst} {T H : Int} (hT : T = 59 ∨ T = 64) (hG : GR σ) (hH : 0 ≤ H) (hgr : 1 ≤ σ H 4 ∧ σ H 4 ≤ 5) (hh : 0 ≤ σ T 4 ∧ σ T 4 ≤ 60) (k : ∀ v, v = eaX (tlC σ T (σ H 5)) (σ H 1) (σ H 4) (σ H 10) (if 90 < σ H 1 then 2 else 3) (¬ σ H 7 = 0) (σ H 8) → Q (some (2, v)) σ n) : EVM (d + 1) 17 [(12, T), (13, H)] σ n Q := by
  rcases hT with rfl | rfl
  · exact s_earned59 hG hH hgr hh k
  · exact s_earned64 hG hH hgr hh k
/-- the class's fees of a person on a day, without journeys -/
def feC (σ : Mem) (p y : Int) : Nat → Int := feN (fun i => decide (σ (114 + i) 5 = y) && seC σ p i) (fun i => eaX (tlC σ (σ 0 9) y) (σ (114 + i) 1) (σ (114 + i) 4) (σ (114 + i) 10) (if 90 < σ (114 + i) 1 then 2 else 3) (¬ σ (114 + i) 7 = 0) (σ (114 + i) 8))
theorem feC_s {σ : Mem} {p y : Int} {k : Nat} : feC σ p y (k + 1) = if (decide (σ (114 + (k : Int)) 5 = y) && seC σ p k) = true then Zladd (feC σ p y k) (eaX (tlC σ (σ 0 9) y) (σ (114 + (k : Int)) 1) (σ (114 + (k : Int)) 4) (σ (114 + (k : Int)) 10) (if 90 < σ (114 + (k : Int)) 1 then 2 else 3) (¬ σ (114 + (k : Int)) 7 = 0) (σ (114 + (k : Int)) 8)) else feC σ p y k := rfl
theorem l_feeC {d : Nat} {n : Nat} {Q : Pst} {σ : Mem} {p y : Int} (hG : GR σ) (hD : DK σ) (hT : σ 0 9 = 59 ∨ σ 0 9 = 64) (hh : 0 ≤ σ (σ 0 9) 4 ∧ σ (σ 0 9) 4 ≤ 60) (hH : ∀ h, 0 ≤ h → h < σ 14 1 → HC σ (114 + h)) (hq : ∀ j l, EV (d + 2) 108 91 [(21, 0), (0, p), (0, y), (2, feC σ p y (σ 14 1).toNat), (9, 0), (0, j), l] [] σ n Q) : ∀ (k j : Nat) (l6 : AV), (j : Int) ≤ σ 14 1 → σ 14 1 - j < k → EV (d + 2) 108 27 [(21, 0), (0, p), (0, y), (2, feC σ p y j), (9, 0), (0, (j : Int)), l6] [] σ n Q := by
  intro k
  have hD2 := hD.2.1
  induction k with
  | zero => intros; exfalso; omega
  | succ k ih =>
    intro j l6 hj hk
    refine r_108_27 (hG := hG) (ht := fun c => ?_) (hf := fun c => ?_)
    · rw [show (σ 14 1).toNat = j by omega] at hq
      exact hq _ _
    · have skip : ¬ (decide (σ (114 + (j : Int)) 5 = y) && seC σ p j) = true → ∀ l, EV (d + 2) 108 27 [(21, 0), (0, p), (0, y), (2, feC σ p y j), (9, 0), (0, Zadd (j : Int) 1), l] [] σ n Q := fun h l => by
        rw [Zadd_nat (by omega)]
        have q := ih (j + 1) l (by omega) (by omega)
        rw [feC_s, if_neg h] at q
        exact q
      have hHj := hH j (by omega) c
      refine r_108_39 (hG := hG) (k := ?_)
      refine s_dget hG hD (fun c2 => ?_) (fun c2 => by exfalso; omega)
      dsimp only [Option.toList_some, List.cons_append, List.nil_append]
      refine r_108_48 (ht := fun c3 => by exfalso; omega) (hf := fun c3 => ?_)
      refine r_108_55 (h0 := c3) (ht := fun c4 => ?_) (hf := fun c4 => ?_)
      · refine r_108_85 (k := skip (fun z => c4 (of_decide_eq_true (Bool.and_eq_true _ _ ▸ z).1)) _)
      · refine r_108_64 (h0 := c3) (k := ?_)
        refine s_isSeated c3 (fun c5 => ?_) (fun c5 => ?_)
        · dsimp only [Option.toList_some, List.cons_append, List.nil_append]
          refine r_108_70 (ht := fun c => absurd c (by decide)) (hf := fun _ => ?_)
          refine r_108_73 (h0 := by omega) (k := ?_)
          refine s_earned hT hG c3 hHj.2.2.2.2.1 hh (fun v ev => ?_)
          dsimp only [Option.toList_some, List.cons_append, List.nil_append]
          refine r_108_83 (k := ?_)
          rw [Zadd_nat (by omega)]
          have q := ih (j + 1) (13, 114 + (j : Int)) (by omega) (by omega)
          rw [feC_s, if_pos (by rw [Bool.and_eq_true]; exact ⟨decide_eq_true c4, decide_eq_true c5⟩)] at q
          rw [c4] at ev
          rw [ev]
          exact q
        · dsimp only [Option.toList_some, List.cons_append, List.nil_append]
          refine r_108_70 (ht := fun _ => ?_) (hf := fun c => absurd rfl c)
          exact r_108_85 (k := skip (fun z => c5 (of_decide_eq_true (Bool.and_eq_true _ _ ▸ z).2)) _)
theorem tlC_fr {σ τ : Mem} (h : ∀ c, 59 ≤ c → c ≤ 68 → τ c = σ c) {T y w : Int} (hT : T = 59 ∨ T = 64) : tlC τ T y w = tlC σ T y w := by
  unfold tlC
  rw [h (T + 2) (by omega) (by omega), h (T + 1) (by omega) (by omega), h T (by omega) (by omega), h (T + 4) (by omega) (by omega), h (T + 3) (by omega) (by omega)]
theorem trT_tw {σ τ : Mem} {w : Int → Int → Int} {home : Int} (l : List Int) (h : ∀ e ∈ l, τ (114 + e) 2 = σ (114 + e) 2) : trT w (fun h => τ (114 + h) 2) home l = trT w (fun h => σ (114 + h) 2) home l := by
  have hc : trR w (fun h => τ (114 + h) 2) home l = trR w (fun h => σ (114 + h) 2) home l := by
    induction l with
    | nil => rfl
    | cons e l ih =>
      rw [trR_c, trR_c, ih (fun x hx => h x (List.mem_cons_of_mem _ hx))]
      show (τ (114 + e) 2, _ + w _ (τ (114 + e) 2)) = _
      rw [h e List.mem_cons_self]
  unfold trT
  rw [hc]
theorem s_fee {d : Nat} {σ : Mem} {n : Nat} {Q : Pst} {p y : Int} (hG : GR σ) (hD : DK σ) (hW : WV σ) (hT : σ 0 9 = 59 ∨ σ 0 9 = 64) (hh : 0 ≤ σ (σ 0 9) 4 ∧ σ (σ 0 9) 4 ≤ 60) (hH : ∀ h, 0 ≤ h → h < σ 14 1 → HC σ (114 + h)) (h4 : (dlN (lvC σ y) (σ 14 1).toNat).length ≤ 4) (hv : (0 ≤ p ∧ p < σ 3 2 ∧ p < 5) ∧ (0 ≤ y ∧ y ≤ 999) → ∀ τ, (∀ c i, ¬ (c = 21 ∧ i = 2) → ¬ c = 22 → ¬ c = 23 → τ c i = σ c i) → Q (some (2, Zladd (feC σ p y (σ 14 1).toNat) (Zlmul (Zldiv (trT (wyC σ) (fun h => σ (114 + h) 2) (σ 4 p) (isR (fun h => σ (114 + h) 6) (dlN (fun h => lvC σ y h && seC σ p h) (σ 14 1).toNat))) 10) (tlC σ (σ 0 9) y 1)))) τ n) (hn : ¬ ((0 ≤ p ∧ p < σ 3 2 ∧ p < 5) ∧ (0 ≤ y ∧ y ≤ 999)) → Q (some (2, -1)) σ n) : EVM (d + 4) 108 [(21, 0), (0, p), (0, y)] σ n Q := by
  show EV (d + 4) 108 0 [(21, 0), (0, p), (0, y), (9, 0), (9, 0), (9, 0), (9, 0)] [] σ n Q
  have hD1 := hD.1
  refine r_108_0 (hG := hG) (k := ?_)
  refine s_has (fun c => ?_) (fun c => ?_)
  · dsimp only [Option.toList_some, List.cons_append, List.nil_append]
    refine r_108_8 (ht := fun c => absurd c (by decide)) (hf := fun _ => ?_)
    refine r_108_11 (k := ?_)
    refine s_isDay (fun c2 => ?_) (fun c2 => ?_)
    · dsimp only [Option.toList_some, List.cons_append, List.nil_append]
      refine r_108_15 (ht := fun _ => ?_) (hf := fun c => absurd c (by decide))
      refine r_108_22 (k := ?_)
      refine l_feeC (d := d + 2) hG hD hT hh hH (fun j l => ?_) ((σ 14 1).toNat + 1) 0 _ (by omega) (by omega)
      refine r_108_91 (hG := hG) (k := ?_)
      refine s_gather hG hD h4 (fun τ rv g1 g2 g3 => ?_)
      dsimp only [Option.toList_none, List.nil_append]
      have hG2 := hG.frS g1
      have e3 := g1 3 2 (by omega) (by decide) (by decide)
      have e09 := g1 0 9 (by decide) (by decide) (by decide)
      have hL : ∀ h ∈ dlN (lvC σ y) (σ 14 1).toNat, 0 ≤ h := fun h hh => (dlN_b _ h hh).1
      have eH : ∀ h, 0 ≤ h → ∀ i, τ (114 + h) i = σ (114 + h) i := fun h hh i => g1 _ i (by omega) (by omega) (by omega)
      refine r_108_103 (hG := hG2) (k := ?_)
      refine s_homeOf hG2 (fun v ev => ?_)
      rw [if_pos (by omega), g1 4 p (by omega) (by decide) (by decide)] at ev
      dsimp only [Option.toList_some, List.cons_append, List.nil_append]
      refine r_108_115 (hG := hG2) (k := ?_)
      refine s_seated hG2 g2 hL (fun m hm hb => ?_)
      dsimp only [Option.toList_some, List.cons_append, List.nil_append]
      refine r_108_123 (hG := hG2) (k := ?_)
      have hW2 : WV τ := fun j h0 h1 => by rw [g1 2 j (by omega) (by decide) (by decide)]; exact hW j h0 h1
      refine s_tripOf hG2 g2 hW2 (by omega) hL (fun v2 ev2 => ?_)
      dsimp only [Option.toList_some, List.cons_append, List.nil_append]
      have hm2 : mbL τ m rv = isR (fun h => σ (114 + h) 6) ((dlN (lvC σ y) (σ 14 1).toNat).filter (seC σ p)) := mbL_eq g2 g3 (fun i x hx => by
        rw [hb i x hx]
        unfold seC
        rw [eH x (hL x (List.mem_of_getElem? hx)), eH x (hL x (List.mem_of_getElem? hx))])
      rw [dlN_filter] at hm2
      have e2 : τ 2 = σ 2 := funext fun j => g1 2 j (by omega) (by decide) (by decide)
      have ew : wyC τ = wyC σ := by funext a b; unfold wyC; rw [e2]
      have et : v2 = trT (wyC σ) (fun h => σ (114 + h) 2) (σ 4 p) (isR (fun h => σ (114 + h) 6) (dlN (fun h => lvC σ y h && seC σ p h) (σ 14 1).toNat)) := by
        rw [ev2, ev, hm2, ew]
        exact trT_tw _ (fun e he => eH e (dlN_b _ e (isR_mem.mp he)).1 2)
      refine r_108_130 (h0 := by omega) (k := ?_)
      rw [e09]
      have hT4 : τ (σ 0 9) 4 = σ (σ 0 9) 4 := g1 _ _ (by omega) (by omega) (by omega)
      refine s_told hT hG2 (by rw [hT4]; exact hh) (fun v3 ev3 => ?_)
      dsimp only [Option.toList_some, List.cons_append, List.nil_append]
      refine r_108_149 (k := ?_)
      rw [tlC_fr (σ := σ) (τ := τ) (fun c h1 h2 => funext fun j => g1 c j (by omega) (by omega) (by omega)) hT] at ev3
      rw [et, ev3]
      exact hv ⟨c, c2⟩ τ g1
    · dsimp only [Option.toList_some, List.cons_append, List.nil_append]
      refine r_108_15 (ht := fun c => absurd rfl c) (hf := fun _ => ?_)
      exact r_108_18 (k := hn (by omega))
  · dsimp only [Option.toList_some, List.cons_append, List.nil_append]
    refine r_108_8 (ht := fun _ => ?_) (hf := fun c => absurd rfl c)
    exact r_108_18 (k := hn (by omega))
/-- the reference's -/
def feM (σ : Mem) (p y : Int) : Nat → Int := feN (fun i => decide (σ 80 i = y) && seM σ p i) (fun i => eaX (tlM σ y) (σ 82 i) (σ 85 i) (σ 88 i) (if σ 89 i = -1 then 2 else 3) (0 ≤ σ 86 i) (σ 86 i))
theorem feM_s {σ : Mem} {p y : Int} {k : Nat} : feM σ p y (k + 1) = if (decide (σ 80 (k : Int) = y) && seM σ p k) = true then Zladd (feM σ p y k) (eaX (tlM σ y) (σ 82 (k : Int)) (σ 85 (k : Int)) (σ 88 (k : Int)) (if σ 89 (k : Int) = -1 then 2 else 3) (0 ≤ σ 86 (k : Int)) (σ 86 (k : Int))) else feM σ p y k := rfl
set_option maxHeartbeats 2000000 in
theorem l_feeM {d : Nat} {n : Nat} {Q : Pst} {σ : Mem} {p y : Int} (hG : GR σ) (hh : 0 ≤ σ 69 43 ∧ σ 69 43 ≤ 60) (hn24 : 0 ≤ σ 69 12 ∧ σ 69 12 ≤ 24) (hgr : ∀ h, 0 ≤ h → h < σ 69 12 → 1 ≤ σ 85 h ∧ σ 85 h ≤ 5) (hq : ∀ j l7 l8 l9, EV (d + 2) 172 221 [(22, 69), (0, p), (0, y), (2, feM σ p y (σ 69 12).toNat), (9, 0), (0, if dlN (fun h => lvM σ y h && seM σ p h) (σ 69 12).toNat = [] then 0 else 1), (0, j), l7, l8, l9] [] σ n Q) : ∀ (k j : Nat) (s a : Int) (l7 l8 l9 : AV), (j : Int) ≤ σ 69 12 → σ 69 12 - j < k → s = feM σ p y j → a = (if dlN (fun h => lvM σ y h && seM σ p h) j = [] then 0 else 1) → EV (d + 2) 172 27 [(22, 69), (0, p), (0, y), (2, s), (9, 0), (0, a), (0, (j : Int)), l7, l8, l9] [] σ n Q := by
  intro k
  induction k with
  | zero => intros; exfalso; omega
  | succ k ih =>
    intro j s a l7 l8 l9 hj hk hs ha
    have hg := hgr j (by omega)
    refine r_172_27  (ht := fun c => ?_) (hf := fun c => ?_)
    · skip
      rw [show (σ 69 12).toNat = j by omega] at hq
      rw [hs, ha]
      exact hq _ _ _ _
    · skip
      refine r_172_36 (hG := hG) (h0 := (by omega)) (ht := fun c => ?_) (hf := fun c => ?_)
      · skip
        refine r_172_215  (k := ?_)
        rw [Zadd_nat (by omega)]
        (try simp only [show Zadd 10 (σ 85 (j : Int)) = 10 + σ 85 (j : Int) from Zadd_eq (by omega) (by omega)] at *)
        refine ih (j + 1) _ _ _ _ _ (by omega) (by omega) ?_ ?_
        · rw [feM_s]
          first
          | (rw [if_neg (fun z => by have z1 := of_decide_eq_true (Bool.and_eq_true _ _ ▸ z).1; have z2 := of_decide_eq_true (Bool.and_eq_true _ _ ▸ z).2; omega)]; exact hs)
          | (rw [if_pos (by rw [Bool.and_eq_true]; exact ⟨decide_eq_true (by omega), decide_eq_true (by omega)⟩), hs]
             congr 1
             unfold eaX
             first
             | rw [mx_r (by omega)]
             | rw [mx_l (by omega)]
             subst_vars
             (repeat' split) <;> first | (exfalso; omega) | rfl)
        · first
          | (have e1 : dlN (fun h => lvM σ y h && seM σ p h) (j + 1) = dlN (fun h => lvM σ y h && seM σ p h) j := by
               rw [dlN_s, if_neg (fun z => by have z1 := of_decide_eq_true (Bool.and_eq_true _ _ ▸ z).1; have z2 := of_decide_eq_true (Bool.and_eq_true _ _ ▸ z).2; omega), List.append_nil]
             rw [e1]
             exact ha)
          | (have e1 : dlN (fun h => lvM σ y h && seM σ p h) (j + 1) = dlN (fun h => lvM σ y h && seM σ p h) j ++ [(j : Int)] := by
               rw [dlN_s, if_pos (by rw [Bool.and_eq_true]; exact ⟨decide_eq_true (by omega), decide_eq_true (by omega)⟩)]
             rw [e1, if_neg (by simp)])
      · skip
        refine r_172_47  (k := ?_)
        refine m_isSeated hG (by omega) (fun c => ?_) (fun c => ?_)
        · dsimp only [Option.toList_some, List.cons_append, List.nil_append]
          refine r_172_54  (ht := fun _ => ?_) (hf := fun c => absurd c (by decide))
          refine r_172_60  (k := ?_)
          refine m_tellsOf hG hh (fun v ev => ?_)
          dsimp only [Option.toList_some, Option.toList_none, List.cons_append, List.nil_append]
          refine r_172_66 (hG := hG) (h0 := (by omega)) (ht := fun c => ?_) (hf := fun c => ?_)
          · skip
            refine r_172_90 (hG := hG) (h0 := (by omega)) (k := ?_)
            refine m_tellsOf hG hh (fun v ev => ?_)
            dsimp only [Option.toList_some, Option.toList_none, List.cons_append, List.nil_append]
            refine r_172_108 (hG := hG) (h0 := (by omega)) (ht := fun c => ?_) (hf := fun c => ?_)
            · skip
              refine r_172_158 (hG := hG) (h0 := (by omega)) (ht := fun c => ?_) (hf := fun c => ?_)
              · skip
                refine r_172_207  (k := ?_)
                rw [Zadd_nat (by omega)]
                (try simp only [show Zadd 10 (σ 85 (j : Int)) = 10 + σ 85 (j : Int) from Zadd_eq (by omega) (by omega)] at *)
                refine ih (j + 1) _ _ _ _ _ (by omega) (by omega) ?_ ?_
                · rw [feM_s]
                  first
                  | (rw [if_neg (fun z => by have z1 := of_decide_eq_true (Bool.and_eq_true _ _ ▸ z).1; have z2 := of_decide_eq_true (Bool.and_eq_true _ _ ▸ z).2; omega)]; exact hs)
                  | (rw [if_pos (by rw [Bool.and_eq_true]; exact ⟨decide_eq_true (by omega), decide_eq_true (by omega)⟩), hs]
                     congr 1
                     unfold eaX
                     first
                     | rw [mx_r (by omega)]
                     | rw [mx_l (by omega)]
                     subst_vars
                     (repeat' split) <;> first | (exfalso; omega) | rfl)
                · first
                  | (have e1 : dlN (fun h => lvM σ y h && seM σ p h) (j + 1) = dlN (fun h => lvM σ y h && seM σ p h) j := by
                       rw [dlN_s, if_neg (fun z => by have z1 := of_decide_eq_true (Bool.and_eq_true _ _ ▸ z).1; have z2 := of_decide_eq_true (Bool.and_eq_true _ _ ▸ z).2; omega), List.append_nil]
                     rw [e1]
                     exact ha)
                  | (have e1 : dlN (fun h => lvM σ y h && seM σ p h) (j + 1) = dlN (fun h => lvM σ y h && seM σ p h) j ++ [(j : Int)] := by
                       rw [dlN_s, if_pos (by rw [Bool.and_eq_true]; exact ⟨decide_eq_true (by omega), decide_eq_true (by omega)⟩)]
                     rw [e1, if_neg (by simp)])
              · skip
                refine r_172_168 (hG := hG) (h0 := (by omega)) (k := ?_)
                refine m_tellsOf hG hh (fun v ev => ?_)
                dsimp only [Option.toList_some, Option.toList_none, List.cons_append, List.nil_append]
                refine r_172_181  (ht := fun c => ?_) (hf := fun c => ?_)
                · skip
                  refine r_172_201  (k := ?_)
                  rw [Zadd_nat (by omega)]
                  (try simp only [show Zadd 10 (σ 85 (j : Int)) = 10 + σ 85 (j : Int) from Zadd_eq (by omega) (by omega)] at *)
                  refine ih (j + 1) _ _ _ _ _ (by omega) (by omega) ?_ ?_
                  · rw [feM_s]
                    first
                    | (rw [if_neg (fun z => by have z1 := of_decide_eq_true (Bool.and_eq_true _ _ ▸ z).1; have z2 := of_decide_eq_true (Bool.and_eq_true _ _ ▸ z).2; omega)]; exact hs)
                    | (rw [if_pos (by rw [Bool.and_eq_true]; exact ⟨decide_eq_true (by omega), decide_eq_true (by omega)⟩), hs]
                       congr 1
                       unfold eaX
                       first
                       | rw [mx_r (by omega)]
                       | rw [mx_l (by omega)]
                       subst_vars
                       (repeat' split) <;> first | (exfalso; omega) | rfl)
                  · first
                    | (have e1 : dlN (fun h => lvM σ y h && seM σ p h) (j + 1) = dlN (fun h => lvM σ y h && seM σ p h) j := by
                         rw [dlN_s, if_neg (fun z => by have z1 := of_decide_eq_true (Bool.and_eq_true _ _ ▸ z).1; have z2 := of_decide_eq_true (Bool.and_eq_true _ _ ▸ z).2; omega), List.append_nil]
                       rw [e1]
                       exact ha)
                    | (have e1 : dlN (fun h => lvM σ y h && seM σ p h) (j + 1) = dlN (fun h => lvM σ y h && seM σ p h) j ++ [(j : Int)] := by
                         rw [dlN_s, if_pos (by rw [Bool.and_eq_true]; exact ⟨decide_eq_true (by omega), decide_eq_true (by omega)⟩)]
                       rw [e1, if_neg (by simp)])
                · skip
                  refine r_172_184  (k := ?_)
                  refine m_tellsOf hG hh (fun v ev => ?_)
                  dsimp only [Option.toList_some, Option.toList_none, List.cons_append, List.nil_append]
                  refine r_172_192  (k := ?_)
                  rw [Zadd_nat (by omega)]
                  (try simp only [show Zadd 10 (σ 85 (j : Int)) = 10 + σ 85 (j : Int) from Zadd_eq (by omega) (by omega)] at *)
                  refine ih (j + 1) _ _ _ _ _ (by omega) (by omega) ?_ ?_
                  · rw [feM_s]
                    first
                    | (rw [if_neg (fun z => by have z1 := of_decide_eq_true (Bool.and_eq_true _ _ ▸ z).1; have z2 := of_decide_eq_true (Bool.and_eq_true _ _ ▸ z).2; omega)]; exact hs)
                    | (rw [if_pos (by rw [Bool.and_eq_true]; exact ⟨decide_eq_true (by omega), decide_eq_true (by omega)⟩), hs]
                       congr 1
                       unfold eaX
                       first
                       | rw [mx_r (by omega)]
                       | rw [mx_l (by omega)]
                       subst_vars
                       (repeat' split) <;> first | (exfalso; omega) | rfl)
                  · first
                    | (have e1 : dlN (fun h => lvM σ y h && seM σ p h) (j + 1) = dlN (fun h => lvM σ y h && seM σ p h) j := by
                         rw [dlN_s, if_neg (fun z => by have z1 := of_decide_eq_true (Bool.and_eq_true _ _ ▸ z).1; have z2 := of_decide_eq_true (Bool.and_eq_true _ _ ▸ z).2; omega), List.append_nil]
                       rw [e1]
                       exact ha)
                    | (have e1 : dlN (fun h => lvM σ y h && seM σ p h) (j + 1) = dlN (fun h => lvM σ y h && seM σ p h) j ++ [(j : Int)] := by
                         rw [dlN_s, if_pos (by rw [Bool.and_eq_true]; exact ⟨decide_eq_true (by omega), decide_eq_true (by omega)⟩)]
                       rw [e1, if_neg (by simp)])
            · skip
              refine r_172_127 (hG := hG) (h0 := (by omega)) (ht := fun c => ?_) (hf := fun c => ?_)
              · skip
                refine r_172_146  (k := ?_)
                refine m_tellsOf hG hh (fun v ev => ?_)
                dsimp only [Option.toList_some, Option.toList_none, List.cons_append, List.nil_append]
                refine r_172_150 (hG := hG) (h0 := (by omega)) (ht := fun c => ?_) (hf := fun c => ?_)
                · skip
                  refine r_172_207  (k := ?_)
                  rw [Zadd_nat (by omega)]
                  (try simp only [show Zadd 10 (σ 85 (j : Int)) = 10 + σ 85 (j : Int) from Zadd_eq (by omega) (by omega)] at *)
                  refine ih (j + 1) _ _ _ _ _ (by omega) (by omega) ?_ ?_
                  · rw [feM_s]
                    first
                    | (rw [if_neg (fun z => by have z1 := of_decide_eq_true (Bool.and_eq_true _ _ ▸ z).1; have z2 := of_decide_eq_true (Bool.and_eq_true _ _ ▸ z).2; omega)]; exact hs)
                    | (rw [if_pos (by rw [Bool.and_eq_true]; exact ⟨decide_eq_true (by omega), decide_eq_true (by omega)⟩), hs]
                       congr 1
                       unfold eaX
                       first
                       | rw [mx_r (by omega)]
                       | rw [mx_l (by omega)]
                       subst_vars
                       (repeat' split) <;> first | (exfalso; omega) | rfl)
                  · first
                    | (have e1 : dlN (fun h => lvM σ y h && seM σ p h) (j + 1) = dlN (fun h => lvM σ y h && seM σ p h) j := by
                         rw [dlN_s, if_neg (fun z => by have z1 := of_decide_eq_true (Bool.and_eq_true _ _ ▸ z).1; have z2 := of_decide_eq_true (Bool.and_eq_true _ _ ▸ z).2; omega), List.append_nil]
                       rw [e1]
                       exact ha)
                    | (have e1 : dlN (fun h => lvM σ y h && seM σ p h) (j + 1) = dlN (fun h => lvM σ y h && seM σ p h) j ++ [(j : Int)] := by
                         rw [dlN_s, if_pos (by rw [Bool.and_eq_true]; exact ⟨decide_eq_true (by omega), decide_eq_true (by omega)⟩)]
                       rw [e1, if_neg (by simp)])
                · skip
                  refine r_172_168 (hG := hG) (h0 := (by omega)) (k := ?_)
                  refine m_tellsOf hG hh (fun v ev => ?_)
                  dsimp only [Option.toList_some, Option.toList_none, List.cons_append, List.nil_append]
                  refine r_172_181  (ht := fun c => ?_) (hf := fun c => ?_)
                  · skip
                    refine r_172_201  (k := ?_)
                    rw [Zadd_nat (by omega)]
                    (try simp only [show Zadd 10 (σ 85 (j : Int)) = 10 + σ 85 (j : Int) from Zadd_eq (by omega) (by omega)] at *)
                    refine ih (j + 1) _ _ _ _ _ (by omega) (by omega) ?_ ?_
                    · rw [feM_s]
                      first
                      | (rw [if_neg (fun z => by have z1 := of_decide_eq_true (Bool.and_eq_true _ _ ▸ z).1; have z2 := of_decide_eq_true (Bool.and_eq_true _ _ ▸ z).2; omega)]; exact hs)
                      | (rw [if_pos (by rw [Bool.and_eq_true]; exact ⟨decide_eq_true (by omega), decide_eq_true (by omega)⟩), hs]
                         congr 1
                         unfold eaX
                         first
                         | rw [mx_r (by omega)]
                         | rw [mx_l (by omega)]
                         subst_vars
                         (repeat' split) <;> first | (exfalso; omega) | rfl)
                    · first
                      | (have e1 : dlN (fun h => lvM σ y h && seM σ p h) (j + 1) = dlN (fun h => lvM σ y h && seM σ p h) j := by
                           rw [dlN_s, if_neg (fun z => by have z1 := of_decide_eq_true (Bool.and_eq_true _ _ ▸ z).1; have z2 := of_decide_eq_true (Bool.and_eq_true _ _ ▸ z).2; omega), List.append_nil]
                         rw [e1]
                         exact ha)
                      | (have e1 : dlN (fun h => lvM σ y h && seM σ p h) (j + 1) = dlN (fun h => lvM σ y h && seM σ p h) j ++ [(j : Int)] := by
                           rw [dlN_s, if_pos (by rw [Bool.and_eq_true]; exact ⟨decide_eq_true (by omega), decide_eq_true (by omega)⟩)]
                         rw [e1, if_neg (by simp)])
                  · skip
                    refine r_172_184  (k := ?_)
                    refine m_tellsOf hG hh (fun v ev => ?_)
                    dsimp only [Option.toList_some, Option.toList_none, List.cons_append, List.nil_append]
                    refine r_172_192  (k := ?_)
                    rw [Zadd_nat (by omega)]
                    (try simp only [show Zadd 10 (σ 85 (j : Int)) = 10 + σ 85 (j : Int) from Zadd_eq (by omega) (by omega)] at *)
                    refine ih (j + 1) _ _ _ _ _ (by omega) (by omega) ?_ ?_
                    · rw [feM_s]
                      first
                      | (rw [if_neg (fun z => by have z1 := of_decide_eq_true (Bool.and_eq_true _ _ ▸ z).1; have z2 := of_decide_eq_true (Bool.and_eq_true _ _ ▸ z).2; omega)]; exact hs)
                      | (rw [if_pos (by rw [Bool.and_eq_true]; exact ⟨decide_eq_true (by omega), decide_eq_true (by omega)⟩), hs]
                         congr 1
                         unfold eaX
                         first
                         | rw [mx_r (by omega)]
                         | rw [mx_l (by omega)]
                         subst_vars
                         (repeat' split) <;> first | (exfalso; omega) | rfl)
                    · first
                      | (have e1 : dlN (fun h => lvM σ y h && seM σ p h) (j + 1) = dlN (fun h => lvM σ y h && seM σ p h) j := by
                           rw [dlN_s, if_neg (fun z => by have z1 := of_decide_eq_true (Bool.and_eq_true _ _ ▸ z).1; have z2 := of_decide_eq_true (Bool.and_eq_true _ _ ▸ z).2; omega), List.append_nil]
                         rw [e1]
                         exact ha)
                      | (have e1 : dlN (fun h => lvM σ y h && seM σ p h) (j + 1) = dlN (fun h => lvM σ y h && seM σ p h) j ++ [(j : Int)] := by
                           rw [dlN_s, if_pos (by rw [Bool.and_eq_true]; exact ⟨decide_eq_true (by omega), decide_eq_true (by omega)⟩)]
                         rw [e1, if_neg (by simp)])
              · skip
                refine r_172_142  (k := ?_)
                refine m_tellsOf hG hh (fun v ev => ?_)
                dsimp only [Option.toList_some, Option.toList_none, List.cons_append, List.nil_append]
                refine r_172_150 (hG := hG) (h0 := (by omega)) (ht := fun c => ?_) (hf := fun c => ?_)
                · skip
                  refine r_172_207  (k := ?_)
                  rw [Zadd_nat (by omega)]
                  (try simp only [show Zadd 10 (σ 85 (j : Int)) = 10 + σ 85 (j : Int) from Zadd_eq (by omega) (by omega)] at *)
                  refine ih (j + 1) _ _ _ _ _ (by omega) (by omega) ?_ ?_
                  · rw [feM_s]
                    first
                    | (rw [if_neg (fun z => by have z1 := of_decide_eq_true (Bool.and_eq_true _ _ ▸ z).1; have z2 := of_decide_eq_true (Bool.and_eq_true _ _ ▸ z).2; omega)]; exact hs)
                    | (rw [if_pos (by rw [Bool.and_eq_true]; exact ⟨decide_eq_true (by omega), decide_eq_true (by omega)⟩), hs]
                       congr 1
                       unfold eaX
                       first
                       | rw [mx_r (by omega)]
                       | rw [mx_l (by omega)]
                       subst_vars
                       (repeat' split) <;> first | (exfalso; omega) | rfl)
                  · first
                    | (have e1 : dlN (fun h => lvM σ y h && seM σ p h) (j + 1) = dlN (fun h => lvM σ y h && seM σ p h) j := by
                         rw [dlN_s, if_neg (fun z => by have z1 := of_decide_eq_true (Bool.and_eq_true _ _ ▸ z).1; have z2 := of_decide_eq_true (Bool.and_eq_true _ _ ▸ z).2; omega), List.append_nil]
                       rw [e1]
                       exact ha)
                    | (have e1 : dlN (fun h => lvM σ y h && seM σ p h) (j + 1) = dlN (fun h => lvM σ y h && seM σ p h) j ++ [(j : Int)] := by
                         rw [dlN_s, if_pos (by rw [Bool.and_eq_true]; exact ⟨decide_eq_true (by omega), decide_eq_true (by omega)⟩)]
                       rw [e1, if_neg (by simp)])
                · skip
                  refine r_172_168 (hG := hG) (h0 := (by omega)) (k := ?_)
                  refine m_tellsOf hG hh (fun v ev => ?_)
                  dsimp only [Option.toList_some, Option.toList_none, List.cons_append, List.nil_append]
                  refine r_172_181  (ht := fun c => ?_) (hf := fun c => ?_)
                  · skip
                    refine r_172_201  (k := ?_)
                    rw [Zadd_nat (by omega)]
                    (try simp only [show Zadd 10 (σ 85 (j : Int)) = 10 + σ 85 (j : Int) from Zadd_eq (by omega) (by omega)] at *)
                    refine ih (j + 1) _ _ _ _ _ (by omega) (by omega) ?_ ?_
                    · rw [feM_s]
                      first
                      | (rw [if_neg (fun z => by have z1 := of_decide_eq_true (Bool.and_eq_true _ _ ▸ z).1; have z2 := of_decide_eq_true (Bool.and_eq_true _ _ ▸ z).2; omega)]; exact hs)
                      | (rw [if_pos (by rw [Bool.and_eq_true]; exact ⟨decide_eq_true (by omega), decide_eq_true (by omega)⟩), hs]
                         congr 1
                         unfold eaX
                         first
                         | rw [mx_r (by omega)]
                         | rw [mx_l (by omega)]
                         subst_vars
                         (repeat' split) <;> first | (exfalso; omega) | rfl)
                    · first
                      | (have e1 : dlN (fun h => lvM σ y h && seM σ p h) (j + 1) = dlN (fun h => lvM σ y h && seM σ p h) j := by
                           rw [dlN_s, if_neg (fun z => by have z1 := of_decide_eq_true (Bool.and_eq_true _ _ ▸ z).1; have z2 := of_decide_eq_true (Bool.and_eq_true _ _ ▸ z).2; omega), List.append_nil]
                         rw [e1]
                         exact ha)
                      | (have e1 : dlN (fun h => lvM σ y h && seM σ p h) (j + 1) = dlN (fun h => lvM σ y h && seM σ p h) j ++ [(j : Int)] := by
                           rw [dlN_s, if_pos (by rw [Bool.and_eq_true]; exact ⟨decide_eq_true (by omega), decide_eq_true (by omega)⟩)]
                         rw [e1, if_neg (by simp)])
                  · skip
                    refine r_172_184  (k := ?_)
                    refine m_tellsOf hG hh (fun v ev => ?_)
                    dsimp only [Option.toList_some, Option.toList_none, List.cons_append, List.nil_append]
                    refine r_172_192  (k := ?_)
                    rw [Zadd_nat (by omega)]
                    (try simp only [show Zadd 10 (σ 85 (j : Int)) = 10 + σ 85 (j : Int) from Zadd_eq (by omega) (by omega)] at *)
                    refine ih (j + 1) _ _ _ _ _ (by omega) (by omega) ?_ ?_
                    · rw [feM_s]
                      first
                      | (rw [if_neg (fun z => by have z1 := of_decide_eq_true (Bool.and_eq_true _ _ ▸ z).1; have z2 := of_decide_eq_true (Bool.and_eq_true _ _ ▸ z).2; omega)]; exact hs)
                      | (rw [if_pos (by rw [Bool.and_eq_true]; exact ⟨decide_eq_true (by omega), decide_eq_true (by omega)⟩), hs]
                         congr 1
                         unfold eaX
                         first
                         | rw [mx_r (by omega)]
                         | rw [mx_l (by omega)]
                         subst_vars
                         (repeat' split) <;> first | (exfalso; omega) | rfl)
                    · first
                      | (have e1 : dlN (fun h => lvM σ y h && seM σ p h) (j + 1) = dlN (fun h => lvM σ y h && seM σ p h) j := by
                           rw [dlN_s, if_neg (fun z => by have z1 := of_decide_eq_true (Bool.and_eq_true _ _ ▸ z).1; have z2 := of_decide_eq_true (Bool.and_eq_true _ _ ▸ z).2; omega), List.append_nil]
                         rw [e1]
                         exact ha)
                      | (have e1 : dlN (fun h => lvM σ y h && seM σ p h) (j + 1) = dlN (fun h => lvM σ y h && seM σ p h) j ++ [(j : Int)] := by
                           rw [dlN_s, if_pos (by rw [Bool.and_eq_true]; exact ⟨decide_eq_true (by omega), decide_eq_true (by omega)⟩)]
                         rw [e1, if_neg (by simp)])
          · skip
            refine r_172_80 (hG := hG) (h0 := (by omega)) (k := ?_)
            refine m_tellsOf hG hh (fun v ev => ?_)
            dsimp only [Option.toList_some, Option.toList_none, List.cons_append, List.nil_append]
            refine r_172_108 (hG := hG) (h0 := (by omega)) (ht := fun c => ?_) (hf := fun c => ?_)
            · skip
              refine r_172_158 (hG := hG) (h0 := (by omega)) (ht := fun c => ?_) (hf := fun c => ?_)
              · skip
                refine r_172_207  (k := ?_)
                rw [Zadd_nat (by omega)]
                (try simp only [show Zadd 10 (σ 85 (j : Int)) = 10 + σ 85 (j : Int) from Zadd_eq (by omega) (by omega)] at *)
                refine ih (j + 1) _ _ _ _ _ (by omega) (by omega) ?_ ?_
                · rw [feM_s]
                  first
                  | (rw [if_neg (fun z => by have z1 := of_decide_eq_true (Bool.and_eq_true _ _ ▸ z).1; have z2 := of_decide_eq_true (Bool.and_eq_true _ _ ▸ z).2; omega)]; exact hs)
                  | (rw [if_pos (by rw [Bool.and_eq_true]; exact ⟨decide_eq_true (by omega), decide_eq_true (by omega)⟩), hs]
                     congr 1
                     unfold eaX
                     first
                     | rw [mx_r (by omega)]
                     | rw [mx_l (by omega)]
                     subst_vars
                     (repeat' split) <;> first | (exfalso; omega) | rfl)
                · first
                  | (have e1 : dlN (fun h => lvM σ y h && seM σ p h) (j + 1) = dlN (fun h => lvM σ y h && seM σ p h) j := by
                       rw [dlN_s, if_neg (fun z => by have z1 := of_decide_eq_true (Bool.and_eq_true _ _ ▸ z).1; have z2 := of_decide_eq_true (Bool.and_eq_true _ _ ▸ z).2; omega), List.append_nil]
                     rw [e1]
                     exact ha)
                  | (have e1 : dlN (fun h => lvM σ y h && seM σ p h) (j + 1) = dlN (fun h => lvM σ y h && seM σ p h) j ++ [(j : Int)] := by
                       rw [dlN_s, if_pos (by rw [Bool.and_eq_true]; exact ⟨decide_eq_true (by omega), decide_eq_true (by omega)⟩)]
                     rw [e1, if_neg (by simp)])
              · skip
                refine r_172_168 (hG := hG) (h0 := (by omega)) (k := ?_)
                refine m_tellsOf hG hh (fun v ev => ?_)
                dsimp only [Option.toList_some, Option.toList_none, List.cons_append, List.nil_append]
                refine r_172_181  (ht := fun c => ?_) (hf := fun c => ?_)
                · skip
                  refine r_172_201  (k := ?_)
                  rw [Zadd_nat (by omega)]
                  (try simp only [show Zadd 10 (σ 85 (j : Int)) = 10 + σ 85 (j : Int) from Zadd_eq (by omega) (by omega)] at *)
                  refine ih (j + 1) _ _ _ _ _ (by omega) (by omega) ?_ ?_
                  · rw [feM_s]
                    first
                    | (rw [if_neg (fun z => by have z1 := of_decide_eq_true (Bool.and_eq_true _ _ ▸ z).1; have z2 := of_decide_eq_true (Bool.and_eq_true _ _ ▸ z).2; omega)]; exact hs)
                    | (rw [if_pos (by rw [Bool.and_eq_true]; exact ⟨decide_eq_true (by omega), decide_eq_true (by omega)⟩), hs]
                       congr 1
                       unfold eaX
                       first
                       | rw [mx_r (by omega)]
                       | rw [mx_l (by omega)]
                       subst_vars
                       (repeat' split) <;> first | (exfalso; omega) | rfl)
                  · first
                    | (have e1 : dlN (fun h => lvM σ y h && seM σ p h) (j + 1) = dlN (fun h => lvM σ y h && seM σ p h) j := by
                         rw [dlN_s, if_neg (fun z => by have z1 := of_decide_eq_true (Bool.and_eq_true _ _ ▸ z).1; have z2 := of_decide_eq_true (Bool.and_eq_true _ _ ▸ z).2; omega), List.append_nil]
                       rw [e1]
                       exact ha)
                    | (have e1 : dlN (fun h => lvM σ y h && seM σ p h) (j + 1) = dlN (fun h => lvM σ y h && seM σ p h) j ++ [(j : Int)] := by
                         rw [dlN_s, if_pos (by rw [Bool.and_eq_true]; exact ⟨decide_eq_true (by omega), decide_eq_true (by omega)⟩)]
                       rw [e1, if_neg (by simp)])
                · skip
                  refine r_172_184  (k := ?_)
                  refine m_tellsOf hG hh (fun v ev => ?_)
                  dsimp only [Option.toList_some, Option.toList_none, List.cons_append, List.nil_append]
                  refine r_172_192  (k := ?_)
                  rw [Zadd_nat (by omega)]
                  (try simp only [show Zadd 10 (σ 85 (j : Int)) = 10 + σ 85 (j : Int) from Zadd_eq (by omega) (by omega)] at *)
                  refine ih (j + 1) _ _ _ _ _ (by omega) (by omega) ?_ ?_
                  · rw [feM_s]
                    first
                    | (rw [if_neg (fun z => by have z1 := of_decide_eq_true (Bool.and_eq_true _ _ ▸ z).1; have z2 := of_decide_eq_true (Bool.and_eq_true _ _ ▸ z).2; omega)]; exact hs)
                    | (rw [if_pos (by rw [Bool.and_eq_true]; exact ⟨decide_eq_true (by omega), decide_eq_true (by omega)⟩), hs]
                       congr 1
                       unfold eaX
                       first
                       | rw [mx_r (by omega)]
                       | rw [mx_l (by omega)]
                       subst_vars
                       (repeat' split) <;> first | (exfalso; omega) | rfl)
                  · first
                    | (have e1 : dlN (fun h => lvM σ y h && seM σ p h) (j + 1) = dlN (fun h => lvM σ y h && seM σ p h) j := by
                         rw [dlN_s, if_neg (fun z => by have z1 := of_decide_eq_true (Bool.and_eq_true _ _ ▸ z).1; have z2 := of_decide_eq_true (Bool.and_eq_true _ _ ▸ z).2; omega), List.append_nil]
                       rw [e1]
                       exact ha)
                    | (have e1 : dlN (fun h => lvM σ y h && seM σ p h) (j + 1) = dlN (fun h => lvM σ y h && seM σ p h) j ++ [(j : Int)] := by
                         rw [dlN_s, if_pos (by rw [Bool.and_eq_true]; exact ⟨decide_eq_true (by omega), decide_eq_true (by omega)⟩)]
                       rw [e1, if_neg (by simp)])
            · skip
              refine r_172_127 (hG := hG) (h0 := (by omega)) (ht := fun c => ?_) (hf := fun c => ?_)
              · skip
                refine r_172_146  (k := ?_)
                refine m_tellsOf hG hh (fun v ev => ?_)
                dsimp only [Option.toList_some, Option.toList_none, List.cons_append, List.nil_append]
                refine r_172_150 (hG := hG) (h0 := (by omega)) (ht := fun c => ?_) (hf := fun c => ?_)
                · skip
                  refine r_172_207  (k := ?_)
                  rw [Zadd_nat (by omega)]
                  (try simp only [show Zadd 10 (σ 85 (j : Int)) = 10 + σ 85 (j : Int) from Zadd_eq (by omega) (by omega)] at *)
                  refine ih (j + 1) _ _ _ _ _ (by omega) (by omega) ?_ ?_
                  · rw [feM_s]
                    first
                    | (rw [if_neg (fun z => by have z1 := of_decide_eq_true (Bool.and_eq_true _ _ ▸ z).1; have z2 := of_decide_eq_true (Bool.and_eq_true _ _ ▸ z).2; omega)]; exact hs)
                    | (rw [if_pos (by rw [Bool.and_eq_true]; exact ⟨decide_eq_true (by omega), decide_eq_true (by omega)⟩), hs]
                       congr 1
                       unfold eaX
                       first
                       | rw [mx_r (by omega)]
                       | rw [mx_l (by omega)]
                       subst_vars
                       (repeat' split) <;> first | (exfalso; omega) | rfl)
                  · first
                    | (have e1 : dlN (fun h => lvM σ y h && seM σ p h) (j + 1) = dlN (fun h => lvM σ y h && seM σ p h) j := by
                         rw [dlN_s, if_neg (fun z => by have z1 := of_decide_eq_true (Bool.and_eq_true _ _ ▸ z).1; have z2 := of_decide_eq_true (Bool.and_eq_true _ _ ▸ z).2; omega), List.append_nil]
                       rw [e1]
                       exact ha)
                    | (have e1 : dlN (fun h => lvM σ y h && seM σ p h) (j + 1) = dlN (fun h => lvM σ y h && seM σ p h) j ++ [(j : Int)] := by
                         rw [dlN_s, if_pos (by rw [Bool.and_eq_true]; exact ⟨decide_eq_true (by omega), decide_eq_true (by omega)⟩)]
                       rw [e1, if_neg (by simp)])
                · skip
                  refine r_172_168 (hG := hG) (h0 := (by omega)) (k := ?_)
                  refine m_tellsOf hG hh (fun v ev => ?_)
                  dsimp only [Option.toList_some, Option.toList_none, List.cons_append, List.nil_append]
                  refine r_172_181  (ht := fun c => ?_) (hf := fun c => ?_)
                  · skip
                    refine r_172_201  (k := ?_)
                    rw [Zadd_nat (by omega)]
                    (try simp only [show Zadd 10 (σ 85 (j : Int)) = 10 + σ 85 (j : Int) from Zadd_eq (by omega) (by omega)] at *)
                    refine ih (j + 1) _ _ _ _ _ (by omega) (by omega) ?_ ?_
                    · rw [feM_s]
                      first
                      | (rw [if_neg (fun z => by have z1 := of_decide_eq_true (Bool.and_eq_true _ _ ▸ z).1; have z2 := of_decide_eq_true (Bool.and_eq_true _ _ ▸ z).2; omega)]; exact hs)
                      | (rw [if_pos (by rw [Bool.and_eq_true]; exact ⟨decide_eq_true (by omega), decide_eq_true (by omega)⟩), hs]
                         congr 1
                         unfold eaX
                         first
                         | rw [mx_r (by omega)]
                         | rw [mx_l (by omega)]
                         subst_vars
                         (repeat' split) <;> first | (exfalso; omega) | rfl)
                    · first
                      | (have e1 : dlN (fun h => lvM σ y h && seM σ p h) (j + 1) = dlN (fun h => lvM σ y h && seM σ p h) j := by
                           rw [dlN_s, if_neg (fun z => by have z1 := of_decide_eq_true (Bool.and_eq_true _ _ ▸ z).1; have z2 := of_decide_eq_true (Bool.and_eq_true _ _ ▸ z).2; omega), List.append_nil]
                         rw [e1]
                         exact ha)
                      | (have e1 : dlN (fun h => lvM σ y h && seM σ p h) (j + 1) = dlN (fun h => lvM σ y h && seM σ p h) j ++ [(j : Int)] := by
                           rw [dlN_s, if_pos (by rw [Bool.and_eq_true]; exact ⟨decide_eq_true (by omega), decide_eq_true (by omega)⟩)]
                         rw [e1, if_neg (by simp)])
                  · skip
                    refine r_172_184  (k := ?_)
                    refine m_tellsOf hG hh (fun v ev => ?_)
                    dsimp only [Option.toList_some, Option.toList_none, List.cons_append, List.nil_append]
                    refine r_172_192  (k := ?_)
                    rw [Zadd_nat (by omega)]
                    (try simp only [show Zadd 10 (σ 85 (j : Int)) = 10 + σ 85 (j : Int) from Zadd_eq (by omega) (by omega)] at *)
                    refine ih (j + 1) _ _ _ _ _ (by omega) (by omega) ?_ ?_
                    · rw [feM_s]
                      first
                      | (rw [if_neg (fun z => by have z1 := of_decide_eq_true (Bool.and_eq_true _ _ ▸ z).1; have z2 := of_decide_eq_true (Bool.and_eq_true _ _ ▸ z).2; omega)]; exact hs)
                      | (rw [if_pos (by rw [Bool.and_eq_true]; exact ⟨decide_eq_true (by omega), decide_eq_true (by omega)⟩), hs]
                         congr 1
                         unfold eaX
                         first
                         | rw [mx_r (by omega)]
                         | rw [mx_l (by omega)]
                         subst_vars
                         (repeat' split) <;> first | (exfalso; omega) | rfl)
                    · first
                      | (have e1 : dlN (fun h => lvM σ y h && seM σ p h) (j + 1) = dlN (fun h => lvM σ y h && seM σ p h) j := by
                           rw [dlN_s, if_neg (fun z => by have z1 := of_decide_eq_true (Bool.and_eq_true _ _ ▸ z).1; have z2 := of_decide_eq_true (Bool.and_eq_true _ _ ▸ z).2; omega), List.append_nil]
                         rw [e1]
                         exact ha)
                      | (have e1 : dlN (fun h => lvM σ y h && seM σ p h) (j + 1) = dlN (fun h => lvM σ y h && seM σ p h) j ++ [(j : Int)] := by
                           rw [dlN_s, if_pos (by rw [Bool.and_eq_true]; exact ⟨decide_eq_true (by omega), decide_eq_true (by omega)⟩)]
                         rw [e1, if_neg (by simp)])
              · skip
                refine r_172_142  (k := ?_)
                refine m_tellsOf hG hh (fun v ev => ?_)
                dsimp only [Option.toList_some, Option.toList_none, List.cons_append, List.nil_append]
                refine r_172_150 (hG := hG) (h0 := (by omega)) (ht := fun c => ?_) (hf := fun c => ?_)
                · skip
                  refine r_172_207  (k := ?_)
                  rw [Zadd_nat (by omega)]
                  (try simp only [show Zadd 10 (σ 85 (j : Int)) = 10 + σ 85 (j : Int) from Zadd_eq (by omega) (by omega)] at *)
                  refine ih (j + 1) _ _ _ _ _ (by omega) (by omega) ?_ ?_
                  · rw [feM_s]
                    first
                    | (rw [if_neg (fun z => by have z1 := of_decide_eq_true (Bool.and_eq_true _ _ ▸ z).1; have z2 := of_decide_eq_true (Bool.and_eq_true _ _ ▸ z).2; omega)]; exact hs)
                    | (rw [if_pos (by rw [Bool.and_eq_true]; exact ⟨decide_eq_true (by omega), decide_eq_true (by omega)⟩), hs]
                       congr 1
                       unfold eaX
                       first
                       | rw [mx_r (by omega)]
                       | rw [mx_l (by omega)]
                       subst_vars
                       (repeat' split) <;> first | (exfalso; omega) | rfl)
                  · first
                    | (have e1 : dlN (fun h => lvM σ y h && seM σ p h) (j + 1) = dlN (fun h => lvM σ y h && seM σ p h) j := by
                         rw [dlN_s, if_neg (fun z => by have z1 := of_decide_eq_true (Bool.and_eq_true _ _ ▸ z).1; have z2 := of_decide_eq_true (Bool.and_eq_true _ _ ▸ z).2; omega), List.append_nil]
                       rw [e1]
                       exact ha)
                    | (have e1 : dlN (fun h => lvM σ y h && seM σ p h) (j + 1) = dlN (fun h => lvM σ y h && seM σ p h) j ++ [(j : Int)] := by
                         rw [dlN_s, if_pos (by rw [Bool.and_eq_true]; exact ⟨decide_eq_true (by omega), decide_eq_true (by omega)⟩)]
                       rw [e1, if_neg (by simp)])
                · skip
                  refine r_172_168 (hG := hG) (h0 := (by omega)) (k := ?_)
                  refine m_tellsOf hG hh (fun v ev => ?_)
                  dsimp only [Option.toList_some, Option.toList_none, List.cons_append, List.nil_append]
                  refine r_172_181  (ht := fun c => ?_) (hf := fun c => ?_)
                  · skip
                    refine r_172_201  (k := ?_)
                    rw [Zadd_nat (by omega)]
                    (try simp only [show Zadd 10 (σ 85 (j : Int)) = 10 + σ 85 (j : Int) from Zadd_eq (by omega) (by omega)] at *)
                    refine ih (j + 1) _ _ _ _ _ (by omega) (by omega) ?_ ?_
                    · rw [feM_s]
                      first
                      | (rw [if_neg (fun z => by have z1 := of_decide_eq_true (Bool.and_eq_true _ _ ▸ z).1; have z2 := of_decide_eq_true (Bool.and_eq_true _ _ ▸ z).2; omega)]; exact hs)
                      | (rw [if_pos (by rw [Bool.and_eq_true]; exact ⟨decide_eq_true (by omega), decide_eq_true (by omega)⟩), hs]
                         congr 1
                         unfold eaX
                         first
                         | rw [mx_r (by omega)]
                         | rw [mx_l (by omega)]
                         subst_vars
                         (repeat' split) <;> first | (exfalso; omega) | rfl)
                    · first
                      | (have e1 : dlN (fun h => lvM σ y h && seM σ p h) (j + 1) = dlN (fun h => lvM σ y h && seM σ p h) j := by
                           rw [dlN_s, if_neg (fun z => by have z1 := of_decide_eq_true (Bool.and_eq_true _ _ ▸ z).1; have z2 := of_decide_eq_true (Bool.and_eq_true _ _ ▸ z).2; omega), List.append_nil]
                         rw [e1]
                         exact ha)
                      | (have e1 : dlN (fun h => lvM σ y h && seM σ p h) (j + 1) = dlN (fun h => lvM σ y h && seM σ p h) j ++ [(j : Int)] := by
                           rw [dlN_s, if_pos (by rw [Bool.and_eq_true]; exact ⟨decide_eq_true (by omega), decide_eq_true (by omega)⟩)]
                         rw [e1, if_neg (by simp)])
                  · skip
                    refine r_172_184  (k := ?_)
                    refine m_tellsOf hG hh (fun v ev => ?_)
                    dsimp only [Option.toList_some, Option.toList_none, List.cons_append, List.nil_append]
                    refine r_172_192  (k := ?_)
                    rw [Zadd_nat (by omega)]
                    (try simp only [show Zadd 10 (σ 85 (j : Int)) = 10 + σ 85 (j : Int) from Zadd_eq (by omega) (by omega)] at *)
                    refine ih (j + 1) _ _ _ _ _ (by omega) (by omega) ?_ ?_
                    · rw [feM_s]
                      first
                      | (rw [if_neg (fun z => by have z1 := of_decide_eq_true (Bool.and_eq_true _ _ ▸ z).1; have z2 := of_decide_eq_true (Bool.and_eq_true _ _ ▸ z).2; omega)]; exact hs)
                      | (rw [if_pos (by rw [Bool.and_eq_true]; exact ⟨decide_eq_true (by omega), decide_eq_true (by omega)⟩), hs]
                         congr 1
                         unfold eaX
                         first
                         | rw [mx_r (by omega)]
                         | rw [mx_l (by omega)]
                         subst_vars
                         (repeat' split) <;> first | (exfalso; omega) | rfl)
                    · first
                      | (have e1 : dlN (fun h => lvM σ y h && seM σ p h) (j + 1) = dlN (fun h => lvM σ y h && seM σ p h) j := by
                           rw [dlN_s, if_neg (fun z => by have z1 := of_decide_eq_true (Bool.and_eq_true _ _ ▸ z).1; have z2 := of_decide_eq_true (Bool.and_eq_true _ _ ▸ z).2; omega), List.append_nil]
                         rw [e1]
                         exact ha)
                      | (have e1 : dlN (fun h => lvM σ y h && seM σ p h) (j + 1) = dlN (fun h => lvM σ y h && seM σ p h) j ++ [(j : Int)] := by
                           rw [dlN_s, if_pos (by rw [Bool.and_eq_true]; exact ⟨decide_eq_true (by omega), decide_eq_true (by omega)⟩)]
                         rw [e1, if_neg (by simp)])
        · dsimp only [Option.toList_some, List.cons_append, List.nil_append]
          refine r_172_54  (ht := fun c => absurd c (by decide)) (hf := fun _ => ?_)
          refine r_172_57  (k := ?_)
          rw [Zadd_nat (by omega)]
          (try simp only [show Zadd 10 (σ 85 (j : Int)) = 10 + σ 85 (j : Int) from Zadd_eq (by omega) (by omega)] at *)
          refine ih (j + 1) _ _ _ _ _ (by omega) (by omega) ?_ ?_
          · rw [feM_s]
            first
            | (rw [if_neg (fun z => by have z1 := of_decide_eq_true (Bool.and_eq_true _ _ ▸ z).1; have z2 := of_decide_eq_true (Bool.and_eq_true _ _ ▸ z).2; omega)]; exact hs)
            | (rw [if_pos (by rw [Bool.and_eq_true]; exact ⟨decide_eq_true (by omega), decide_eq_true (by omega)⟩), hs]
               congr 1
               unfold eaX
               first
               | rw [mx_r (by omega)]
               | rw [mx_l (by omega)]
               subst_vars
               (repeat' split) <;> first | (exfalso; omega) | rfl)
          · first
            | (have e1 : dlN (fun h => lvM σ y h && seM σ p h) (j + 1) = dlN (fun h => lvM σ y h && seM σ p h) j := by
                 rw [dlN_s, if_neg (fun z => by have z1 := of_decide_eq_true (Bool.and_eq_true _ _ ▸ z).1; have z2 := of_decide_eq_true (Bool.and_eq_true _ _ ▸ z).2; omega), List.append_nil]
               rw [e1]
               exact ha)
            | (have e1 : dlN (fun h => lvM σ y h && seM σ p h) (j + 1) = dlN (fun h => lvM σ y h && seM σ p h) j ++ [(j : Int)] := by
                 rw [dlN_s, if_pos (by rw [Bool.and_eq_true]; exact ⟨decide_eq_true (by omega), decide_eq_true (by omega)⟩)]
               rw [e1, if_neg (by simp)])
set_option maxHeartbeats 2000000 in
theorem m_fee {d : Nat} {σ : Mem} {n : Nat} {Q : Pst} {p y : Int} (hG : GR σ) (hW : WM σ) (hh : 0 ≤ σ 69 43 ∧ σ 69 43 ≤ 60) (hn24 : 0 ≤ σ 69 12 ∧ σ 69 12 ≤ 24) (hp5 : 0 ≤ σ 69 2 ∧ σ 69 2 ≤ 5) (hho : ∀ q, 0 ≤ q → q < σ 69 2 → 0 ≤ σ 72 q ∧ σ 72 q ≤ 5) (hH : ∀ h, 0 ≤ h → h < σ 69 12 → HR σ h) (hgr : ∀ h, 0 ≤ h → h < σ 69 12 → 1 ≤ σ 85 h ∧ σ 85 h ≤ 5) (hv : (0 ≤ p ∧ p < σ 69 2) ∧ (0 ≤ y ∧ y ≤ 999) → ∀ τ, (∀ c j, ¬ c = 97 → ¬ (c = 69 ∧ j = 33) → τ c j = σ c j) → Q (some (2, if dlN (fun h => lvM σ y h && seM σ p h) (σ 69 12).toNat = [] then feM σ p y (σ 69 12).toNat else Zladd (feM σ p y (σ 69 12).toNat) (Zlmul (Zdiv (trT (wyM σ) (σ 83) (σ 72 p) (isR (σ 81) (dlN (fun h => lvM σ y h && seM σ p h) (σ 69 12).toNat))) 10) (tlM σ y 1)))) τ n) (hn : ¬ ((0 ≤ p ∧ p < σ 69 2) ∧ (0 ≤ y ∧ y ≤ 999)) → Q (some (2, -1)) σ n) : EVM (d + 3) 172 [(22, 69), (0, p), (0, y)] σ n Q := by
  show EV (d + 3) 172 0 [(22, 69), (0, p), (0, y), (9, 0), (9, 0), (9, 0), (9, 0), (9, 0), (9, 0), (9, 0)] [] σ n Q
  have hz : Zsub (σ 69 2) 1 = σ 69 2 - 1 := Zsub_eq (by omega) (by omega)
  refine r_172_0 (k := ?_)
  refine m_isPerson (fun c => ?_) (fun c => ?_)
  · dsimp only [Option.toList_some, List.cons_append, List.nil_append]
    refine r_172_5 (ht := fun c => absurd c (by decide)) (hf := fun _ => ?_)
    refine r_172_8 (k := ?_)
    refine m_isDay (fun c2 => ?_) (fun c2 => ?_)
    · dsimp only [Option.toList_some, List.cons_append, List.nil_append]
      refine r_172_12 (ht := fun _ => ?_) (hf := fun c => absurd c (by decide))
      refine r_172_19 (k := ?_)
      refine l_feeM (d := d + 1) hG hh hn24 hgr (fun j l7 l8 l9 => ?_) ((σ 69 12).toNat + 1) 0 0 0 _ _ _ (by omega) (by omega) rfl rfl
      by_cases he : dlN (fun h => lvM σ y h && seM σ p h) (σ 69 12).toNat = []
      · rw [if_pos he]
        refine r_172_221 (ht := fun _ => ?_) (hf := fun c => absurd rfl c)
        refine r_172_249 (k := ?_)
        have q := hv (by omega) σ (fun _ _ _ _ => rfl)
        rw [if_pos he] at q
        exact q
      · rw [if_neg he]
        refine r_172_221 (ht := fun c => absurd c (by decide)) (hf := fun _ => ?_)
        refine r_172_226 (k := ?_)
        refine m_journeys hG hW hn24 hp5 hho hH (fun _ τ g1 => ?_) (fun c => by exfalso; omega)
        rw [if_neg he]
        dsimp only [Option.toList_some, List.cons_append, List.nil_append]
        refine r_172_233 (k := ?_)
        have hG2 : GR τ := GR.fr (fun c j => decide (c = 97) || (decide (c = 69) && decide (j = 33))) hG (fun c j q => g1 c j (fun z => by simp [z] at q) (fun z => by simp [z.1, z.2] at q)) (by decide)
        have e43 : τ 69 43 = σ 69 43 := g1 _ _ (by decide) (by decide)
        refine m_tellsOf hG2 (by rw [e43]; exact hh) (fun v ev => ?_)
        dsimp only [Option.toList_some, List.cons_append, List.nil_append]
        refine r_172_243 (k := ?_)
        have etl : tlM τ y 1 = tlM σ y 1 := by
          have e : ∀ c, 98 ≤ c → τ c = σ c := fun c hc => funext fun j => g1 c j (by omega) (by omega)
          unfold tlM
          rw [e 99 (by decide), e 100 (by decide), e 101 (by decide), e 102 (by decide), e43]
        rw [ev, etl]
        have q := hv (by omega) τ g1
        rw [if_neg he] at q
        exact q
    · dsimp only [Option.toList_some, List.cons_append, List.nil_append]
      refine r_172_12 (ht := fun c => absurd rfl c) (hf := fun _ => ?_)
      exact r_172_15 (k := hn (by omega))
  · dsimp only [Option.toList_some, List.cons_append, List.nil_append]
    refine r_172_5 (ht := fun _ => ?_) (hf := fun c => absurd rfl c)
    exact r_172_15 (k := hn (by omega))
set_option maxHeartbeats 2000000 in
theorem s_teams {d : Nat} {σ : Mem} {n : Nat} {Q : Pst} {h : Int} (hG : GR σ) (hD : DK σ) (hP : PV σ) (hH : ∀ h, 0 ≤ h → h < σ 14 1 → HC σ (114 + h)) (hv : 0 ≤ h ∧ h < σ 14 1 → ∀ τ, GR τ → (∀ c i, ¬ c = 13 → ¬ (c = 16 ∧ i = 4) → ¬ (17 ≤ c ∧ c ≤ 20) → τ c i = σ c i) → Q (some (0, ((tmL (abC σ (114 + h)) 5 (90 < σ (114 + h) 1) (σ (114 + h) 3)).length : Int))) τ n) (hn : ¬ (0 ≤ h ∧ h < σ 14 1) → Q (some (0, -1)) σ n) : EVM (d + 5) 97 [(21, 0), (0, h)] σ n Q := by
  show EV (d + 5) 97 0 [(21, 0), (0, h), (9, 0)] [] σ n Q
  refine r_97_0 (hG := hG) (k := ?_)
  refine s_dget hG hD (fun c => ?_) (fun c => ?_)
  · dsimp only [Option.toList_some, List.cons_append, List.nil_append]
    refine r_97_8  (ht := fun c => ?_) (hf := fun c => by exfalso; omega)
    refine r_97_15 (hG := hG) (k := ?_)
    refine s_find16 hG hP (by omega) (hH h (by omega) (by omega)).1 (by have q_ := hH h (by omega) (by omega); have q2_ := q_.2.2.2.1; omega) (fun τ g1 g2 g3 g4 => ?_)
    dsimp only [Option.toList_some, Option.toList_none, List.cons_append, List.nil_append]
    refine r_97_31 (hG := g1) (k := ?_)
    (first | exact hn (by omega) | (rw [g3]; exact hv (by omega) τ g1 g2))
  · dsimp only [Option.toList_some, List.cons_append, List.nil_append]
    refine r_97_8  (ht := fun c => by exfalso; omega) (hf := fun c => ?_)
    refine r_97_13  (k := ?_)
    (first | exact hn (by omega) | (rw [g3]; exact hv (by omega) τ g1 g2))
set_option maxHeartbeats 2000000 in
theorem s_team {d : Nat} {σ : Mem} {n : Nat} {Q : Pst} {h i w : Int} (hG : GR σ) (hD : DK σ) (hP : PV σ) (hH : ∀ h, 0 ≤ h → h < σ 14 1 → HC σ (114 + h)) (hv : 0 ≤ h ∧ h < σ 14 1 → ∀ τ v, GR τ → (∀ c i, ¬ c = 13 → ¬ (c = 16 ∧ i = 4) → ¬ (17 ≤ c ∧ c ≤ 20) → τ c i = σ c i) → (v = if (0 ≤ i ∧ i < ((tmL (abC σ (114 + h)) 5 (90 < σ (114 + h) 1) (σ (114 + h) 3)).length : Int)) ∧ (0 ≤ w ∧ w ≤ 2) then (if w = 0 then ((tmL (abC σ (114 + h)) 5 (90 < σ (114 + h) 1) (σ (114 + h) 3)).getD i.toNat (0, 0, 0)).1 else if w = 1 then ((tmL (abC σ (114 + h)) 5 (90 < σ (114 + h) 1) (σ (114 + h) 3)).getD i.toNat (0, 0, 0)).2.1 else ((tmL (abC σ (114 + h)) 5 (90 < σ (114 + h) 1) (σ (114 + h) 3)).getD i.toNat (0, 0, 0)).2.2) else -1) → Q (some (0, v)) τ n) (hn : ¬ (0 ≤ h ∧ h < σ 14 1) → Q (some (0, -1)) σ n) : EVM (d + 5) 98 [(21, 0), (0, h), (0, i), (0, w)] σ n Q := by
  show EV (d + 5) 98 0 [(21, 0), (0, h), (0, i), (0, w), (9, 0)] [] σ n Q
  refine r_98_0 (hG := hG) (k := ?_)
  refine s_dget hG hD (fun c => ?_) (fun c => ?_)
  · dsimp only [Option.toList_some, List.cons_append, List.nil_append]
    refine r_98_8  (ht := fun c => ?_) (hf := fun c => by exfalso; omega)
    refine r_98_17 (hG := hG) (k := ?_)
    refine s_find16 hG hP (by omega) (hH h (by omega) (by omega)).1 (by have q_ := hH h (by omega) (by omega); have q2_ := q_.2.2.2.1; omega) (fun τ g1 g2 g3 g4 => ?_)
    dsimp only [Option.toList_some, Option.toList_none, List.cons_append, List.nil_append]
    refine r_98_34  (k := ?_)
    rw [lk_cons]
    refine ite_two (fun c => ?_) (fun c => ?_)
    · skip
      refine r_98_60 (hG := g1) (k := ?_)
      refine s_first16 g1 (fun v ev => ?_)
      dsimp only [Option.toList_some, Option.toList_none, List.cons_append, List.nil_append]
      refine r_98_68  (k := ?_)
      (first
       | exact hn (by omega)
       | (refine hv (by omega) τ _ g1 g2 ?_
          have hb := tmL_b (ab := abC σ (114 + h)) (P := 5) (by omega) (lg := 90 < σ (114 + h) 1) (tg := σ (114 + h) 3)
          first
          | (rw [ev, g3]
             by_cases hi : 0 ≤ i ∧ i < ((tmL (abC σ (114 + h)) 5 (90 < σ (114 + h) 1) (σ (114 + h) 3)).length : Int)
             · have e := g4 i.toNat _ (List.getElem?_eq_getElem (show i.toNat < (tmL (abC σ (114 + h)) 5 (90 < σ (114 + h) 1) (σ (114 + h) 3)).length by omega))
               have ed : (tmL (abC σ (114 + h)) 5 (90 < σ (114 + h) 1) (σ (114 + h) 3)).getD i.toNat (0, 0, 0) = (tmL (abC σ (114 + h)) 5 (90 < σ (114 + h) 1) (σ (114 + h) 3))[i.toNat]'(by omega) := by rw [List.getD_eq_getElem?_getD, List.getElem?_eq_getElem (by omega)]; rfl
               rw [show (0 : Int) + ((i.toNat : Nat) : Int) = i by omega] at e
               rw [if_pos (by omega), if_pos (by omega), ed]
               (repeat' split) <;> first | (exfalso; omega) | exact e.1 | exact e.2.1 | exact e.2.2
             · rw [if_neg (by omega), if_neg (by omega)])
          | (rw [if_neg (by omega)])))
    · skip
      rw [lk_cons]
      refine ite_two (fun c => ?_) (fun c => ?_)
      · skip
        refine r_98_69 (hG := g1) (k := ?_)
        refine s_second16 g1 (fun v ev => ?_)
        dsimp only [Option.toList_some, Option.toList_none, List.cons_append, List.nil_append]
        refine r_98_77  (k := ?_)
        (first
         | exact hn (by omega)
         | (refine hv (by omega) τ _ g1 g2 ?_
            have hb := tmL_b (ab := abC σ (114 + h)) (P := 5) (by omega) (lg := 90 < σ (114 + h) 1) (tg := σ (114 + h) 3)
            first
            | (rw [ev, g3]
               by_cases hi : 0 ≤ i ∧ i < ((tmL (abC σ (114 + h)) 5 (90 < σ (114 + h) 1) (σ (114 + h) 3)).length : Int)
               · have e := g4 i.toNat _ (List.getElem?_eq_getElem (show i.toNat < (tmL (abC σ (114 + h)) 5 (90 < σ (114 + h) 1) (σ (114 + h) 3)).length by omega))
                 have ed : (tmL (abC σ (114 + h)) 5 (90 < σ (114 + h) 1) (σ (114 + h) 3)).getD i.toNat (0, 0, 0) = (tmL (abC σ (114 + h)) 5 (90 < σ (114 + h) 1) (σ (114 + h) 3))[i.toNat]'(by omega) := by rw [List.getD_eq_getElem?_getD, List.getElem?_eq_getElem (by omega)]; rfl
                 rw [show (0 : Int) + ((i.toNat : Nat) : Int) = i by omega] at e
                 rw [if_pos (by omega), if_pos (by omega), ed]
                 (repeat' split) <;> first | (exfalso; omega) | exact e.1 | exact e.2.1 | exact e.2.2
               · rw [if_neg (by omega), if_neg (by omega)])
            | (rw [if_neg (by omega)])))
      · skip
        rw [lk_cons]
        refine ite_two (fun c => ?_) (fun c => ?_)
        · skip
          refine r_98_78 (hG := g1) (k := ?_)
          refine s_relay16 g1 (fun v ev => ?_)
          dsimp only [Option.toList_some, Option.toList_none, List.cons_append, List.nil_append]
          refine r_98_86  (k := ?_)
          (first
           | exact hn (by omega)
           | (refine hv (by omega) τ _ g1 g2 ?_
              have hb := tmL_b (ab := abC σ (114 + h)) (P := 5) (by omega) (lg := 90 < σ (114 + h) 1) (tg := σ (114 + h) 3)
              first
              | (rw [ev, g3]
                 by_cases hi : 0 ≤ i ∧ i < ((tmL (abC σ (114 + h)) 5 (90 < σ (114 + h) 1) (σ (114 + h) 3)).length : Int)
                 · have e := g4 i.toNat _ (List.getElem?_eq_getElem (show i.toNat < (tmL (abC σ (114 + h)) 5 (90 < σ (114 + h) 1) (σ (114 + h) 3)).length by omega))
                   have ed : (tmL (abC σ (114 + h)) 5 (90 < σ (114 + h) 1) (σ (114 + h) 3)).getD i.toNat (0, 0, 0) = (tmL (abC σ (114 + h)) 5 (90 < σ (114 + h) 1) (σ (114 + h) 3))[i.toNat]'(by omega) := by rw [List.getD_eq_getElem?_getD, List.getElem?_eq_getElem (by omega)]; rfl
                   rw [show (0 : Int) + ((i.toNat : Nat) : Int) = i by omega] at e
                   rw [if_pos (by omega), if_pos (by omega), ed]
                   (repeat' split) <;> first | (exfalso; omega) | exact e.1 | exact e.2.1 | exact e.2.2
                 · rw [if_neg (by omega), if_neg (by omega)])
              | (rw [if_neg (by omega)])))
        · skip
          rw [lk_nil]
          refine r_98_87  (k := ?_)
          (first
           | exact hn (by omega)
           | (refine hv (by omega) τ _ g1 g2 ?_
              have hb := tmL_b (ab := abC σ (114 + h)) (P := 5) (by omega) (lg := 90 < σ (114 + h) 1) (tg := σ (114 + h) 3)
              first
              | (rw [ev, g3]
                 by_cases hi : 0 ≤ i ∧ i < ((tmL (abC σ (114 + h)) 5 (90 < σ (114 + h) 1) (σ (114 + h) 3)).length : Int)
                 · have e := g4 i.toNat _ (List.getElem?_eq_getElem (show i.toNat < (tmL (abC σ (114 + h)) 5 (90 < σ (114 + h) 1) (σ (114 + h) 3)).length by omega))
                   have ed : (tmL (abC σ (114 + h)) 5 (90 < σ (114 + h) 1) (σ (114 + h) 3)).getD i.toNat (0, 0, 0) = (tmL (abC σ (114 + h)) 5 (90 < σ (114 + h) 1) (σ (114 + h) 3))[i.toNat]'(by omega) := by rw [List.getD_eq_getElem?_getD, List.getElem?_eq_getElem (by omega)]; rfl
                   rw [show (0 : Int) + ((i.toNat : Nat) : Int) = i by omega] at e
                   rw [if_pos (by omega), if_pos (by omega), ed]
                   (repeat' split) <;> first | (exfalso; omega) | exact e.1 | exact e.2.1 | exact e.2.2
                 · rw [if_neg (by omega), if_neg (by omega)])
              | (rw [if_neg (by omega)])))
  · dsimp only [Option.toList_some, List.cons_append, List.nil_append]
    refine r_98_8  (ht := fun c => by exfalso; omega) (hf := fun c => ?_)
    refine r_98_15  (k := ?_)
    (first
     | exact hn (by omega)
     | (refine hv (by omega) τ _ g1 g2 ?_
        have hb := tmL_b (ab := abC σ (114 + h)) (P := 5) (by omega) (lg := 90 < σ (114 + h) 1) (tg := σ (114 + h) 3)
        first
        | (rw [ev, g3]
           by_cases hi : 0 ≤ i ∧ i < ((tmL (abC σ (114 + h)) 5 (90 < σ (114 + h) 1) (σ (114 + h) 3)).length : Int)
           · have e := g4 i.toNat _ (List.getElem?_eq_getElem (show i.toNat < (tmL (abC σ (114 + h)) 5 (90 < σ (114 + h) 1) (σ (114 + h) 3)).length by omega))
             have ed : (tmL (abC σ (114 + h)) 5 (90 < σ (114 + h) 1) (σ (114 + h) 3)).getD i.toNat (0, 0, 0) = (tmL (abC σ (114 + h)) 5 (90 < σ (114 + h) 1) (σ (114 + h) 3))[i.toNat]'(by omega) := by rw [List.getD_eq_getElem?_getD, List.getElem?_eq_getElem (by omega)]; rfl
             rw [show (0 : Int) + ((i.toNat : Nat) : Int) = i by omega] at e
             rw [if_pos (by omega), if_pos (by omega), ed]
             (repeat' split) <;> first | (exfalso; omega) | exact e.1 | exact e.2.1 | exact e.2.2
           · rw [if_neg (by omega), if_neg (by omega)])
        | (rw [if_neg (by omega)])))
set_option maxHeartbeats 2000000 in
theorem m_teams {d : Nat} {σ : Mem} {n : Nat} {Q : Pst} {h : Int} {P : Nat} (hG : GR σ) (hP : PM σ) (hM : ∀ h, 0 ≤ h → h < σ 69 12 → HM σ h) (hz : Zsub (σ 69 12) 1 = σ 69 12 - 1) (hPp : σ 69 2 = (P : Int)) (hP5 : P ≤ 5) (hv : 0 ≤ h ∧ h < σ 69 12 → ∀ τ, GR τ → (∀ c j, ¬ (90 ≤ c ∧ c ≤ 93) → τ c j = σ c j) → Q (some (0, ((tmL (abM σ h) P (90 < σ 82 h) (σ 84 h)).length : Int))) τ n) (hn : ¬ (0 ≤ h ∧ h < σ 69 12) → Q (some (0, -1)) σ n) : EVM (d + 4) 144 [(22, 69), (0, h)] σ n Q := by
  show EV (d + 4) 144 0 [(22, 69), (0, h)] [] σ n Q
  refine r_144_0  (k := ?_)
  refine m_isHearing (fun c => ?_) (fun c => ?_)
  · dsimp only [Option.toList_some, List.cons_append, List.nil_append]
    refine r_144_5  (ht := fun _ => ?_) (hf := fun c => absurd c (by decide))
    refine r_144_10  (k := ?_)
    refine m_teamsOf hG hP (hM h (by omega) (by omega)) (by decide) hPp hP5 (fun τ hL => ?_)
    dsimp only [Option.toList_some, Option.toList_none, List.cons_append, List.nil_append]
    refine r_144_16 (hG := hL.GR hG) (k := ?_)
    (first | exact hn (by omega) | (rw [hL.2.1]; exact hv (by omega) τ (hL.GR hG) (fun c j q => hL.1 c j (by omega) (by omega))))
  · dsimp only [Option.toList_some, List.cons_append, List.nil_append]
    refine r_144_5  (ht := fun c => absurd c (by decide)) (hf := fun _ => ?_)
    refine r_144_8  (k := ?_)
    (first | exact hn (by omega) | (rw [hL.2.1]; exact hv (by omega) τ (hL.GR hG) (fun c j q => hL.1 c j (by omega) (by omega))))
set_option maxHeartbeats 2000000 in
theorem m_team {d : Nat} {σ : Mem} {n : Nat} {Q : Pst} {h i w : Int} {P : Nat} (hG : GR σ) (hP : PM σ) (hM : ∀ h, 0 ≤ h → h < σ 69 12 → HM σ h) (hz : Zsub (σ 69 12) 1 = σ 69 12 - 1) (hPp : σ 69 2 = (P : Int)) (hP5 : P ≤ 5) (hv : 0 ≤ h ∧ h < σ 69 12 → ∀ τ v, GR τ → (∀ c j, ¬ (90 ≤ c ∧ c ≤ 93) → τ c j = σ c j) → (v = if (0 ≤ i ∧ i < ((tmL (abM σ h) P (90 < σ 82 h) (σ 84 h)).length : Int)) ∧ (0 ≤ w ∧ w ≤ 2) then (if w = 0 then ((tmL (abM σ h) P (90 < σ 82 h) (σ 84 h)).getD i.toNat (0, 0, 0)).1 else if w = 1 then ((tmL (abM σ h) P (90 < σ 82 h) (σ 84 h)).getD i.toNat (0, 0, 0)).2.1 else ((tmL (abM σ h) P (90 < σ 82 h) (σ 84 h)).getD i.toNat (0, 0, 0)).2.2) else -1) → Q (some (0, v)) τ n) (hn : ¬ (0 ≤ h ∧ h < σ 69 12) → Q (some (0, -1)) σ n) : EVM (d + 4) 145 [(22, 69), (0, h), (0, i), (0, w)] σ n Q := by
  show EV (d + 4) 145 0 [(22, 69), (0, h), (0, i), (0, w)] [] σ n Q
  refine r_145_0  (k := ?_)
  refine m_isHearing (fun c => ?_) (fun c => ?_)
  · dsimp only [Option.toList_some, List.cons_append, List.nil_append]
    refine r_145_5  (ht := fun _ => ?_) (hf := fun c => absurd c (by decide))
    refine r_145_10  (k := ?_)
    refine m_teamsOf hG hP (hM h (by omega) (by omega)) (by decide) hPp hP5 (fun τ hL => ?_)
    dsimp only [Option.toList_some, Option.toList_none, List.cons_append, List.nil_append]
    refine r_145_16 (hG := hL.GR hG) (k := ?_)
    refine m_in (fun c => ?_) (fun c => ?_)
    · dsimp only [Option.toList_some, List.cons_append, List.nil_append]
      refine r_145_29  (ht := fun _ => ?_) (hf := fun c => absurd c (by decide))
      refine r_145_34  (ht := fun c => ?_) (hf := fun c => ?_)
      · skip
        refine r_145_50  (ht := fun c => ?_) (hf := fun c => ?_)
        · skip
          refine r_145_67  (ht := fun c => ?_) (hf := fun c => ?_)
          · skip
            refine r_145_84  (k := ?_)
            (first
             | exact hn (by omega)
             | (have hb := tmL_b (ab := abM σ h) (P := P) hP5 (lg := 90 < σ 82 h) (tg := σ 84 h)
                have hl := hL.2.1
                have hzz : Zsub (τ 93 4) 1 = τ 93 4 - 1 := Zsub_eq (by omega) (by omega)
                refine hv (by omega) τ _ (hL.GR hG) (fun c j q => hL.1 c j (by omega) (by omega)) ?_
                first
                | (rw [if_neg (by omega)])
                | (have e := hL.2.2 i.toNat _ (List.getElem?_eq_getElem (show i.toNat < (tmL (abM σ h) P (90 < σ 82 h) (σ 84 h)).length by omega))
                   have ed : (tmL (abM σ h) P (90 < σ 82 h) (σ 84 h)).getD i.toNat (0, 0, 0) = (tmL (abM σ h) P (90 < σ 82 h) (σ 84 h))[i.toNat]'(by omega) := by rw [List.getD_eq_getElem?_getD, List.getElem?_eq_getElem (by omega)]; rfl
                   rw [show (30 : Int) * 4 + ((i.toNat : Nat) : Int) = 120 + i by omega] at e
                   rw [if_pos (by omega), ed, Zadd_eq (by omega) (by omega)]
                   (repeat' split) <;> first | (exfalso; omega) | exact e.1 | exact e.2.1 | exact e.2.2)))
          · skip
            refine r_145_72 (hG := hL.GR hG) (h0 := (by have hb := tmL_b (ab := abM σ h) (P := P) hP5 (lg := 90 < σ 82 h) (tg := σ 84 h); have hl := hL.2.1; have hzz : Zsub (τ 93 4) 1 = τ 93 4 - 1 := Zsub_eq (by omega) (by omega); rw [Zadd_eq (by omega) (by omega)]; omega)) (k := ?_)
            (first
             | exact hn (by omega)
             | (have hb := tmL_b (ab := abM σ h) (P := P) hP5 (lg := 90 < σ 82 h) (tg := σ 84 h)
                have hl := hL.2.1
                have hzz : Zsub (τ 93 4) 1 = τ 93 4 - 1 := Zsub_eq (by omega) (by omega)
                refine hv (by omega) τ _ (hL.GR hG) (fun c j q => hL.1 c j (by omega) (by omega)) ?_
                first
                | (rw [if_neg (by omega)])
                | (have e := hL.2.2 i.toNat _ (List.getElem?_eq_getElem (show i.toNat < (tmL (abM σ h) P (90 < σ 82 h) (σ 84 h)).length by omega))
                   have ed : (tmL (abM σ h) P (90 < σ 82 h) (σ 84 h)).getD i.toNat (0, 0, 0) = (tmL (abM σ h) P (90 < σ 82 h) (σ 84 h))[i.toNat]'(by omega) := by rw [List.getD_eq_getElem?_getD, List.getElem?_eq_getElem (by omega)]; rfl
                   rw [show (30 : Int) * 4 + ((i.toNat : Nat) : Int) = 120 + i by omega] at e
                   rw [if_pos (by omega), ed, Zadd_eq (by omega) (by omega)]
                   (repeat' split) <;> first | (exfalso; omega) | exact e.1 | exact e.2.1 | exact e.2.2)))
        · skip
          refine r_145_55 (hG := hL.GR hG) (h0 := (by have hb := tmL_b (ab := abM σ h) (P := P) hP5 (lg := 90 < σ 82 h) (tg := σ 84 h); have hl := hL.2.1; have hzz : Zsub (τ 93 4) 1 = τ 93 4 - 1 := Zsub_eq (by omega) (by omega); rw [Zadd_eq (by omega) (by omega)]; omega)) (k := ?_)
          (first
           | exact hn (by omega)
           | (have hb := tmL_b (ab := abM σ h) (P := P) hP5 (lg := 90 < σ 82 h) (tg := σ 84 h)
              have hl := hL.2.1
              have hzz : Zsub (τ 93 4) 1 = τ 93 4 - 1 := Zsub_eq (by omega) (by omega)
              refine hv (by omega) τ _ (hL.GR hG) (fun c j q => hL.1 c j (by omega) (by omega)) ?_
              first
              | (rw [if_neg (by omega)])
              | (have e := hL.2.2 i.toNat _ (List.getElem?_eq_getElem (show i.toNat < (tmL (abM σ h) P (90 < σ 82 h) (σ 84 h)).length by omega))
                 have ed : (tmL (abM σ h) P (90 < σ 82 h) (σ 84 h)).getD i.toNat (0, 0, 0) = (tmL (abM σ h) P (90 < σ 82 h) (σ 84 h))[i.toNat]'(by omega) := by rw [List.getD_eq_getElem?_getD, List.getElem?_eq_getElem (by omega)]; rfl
                 rw [show (30 : Int) * 4 + ((i.toNat : Nat) : Int) = 120 + i by omega] at e
                 rw [if_pos (by omega), ed, Zadd_eq (by omega) (by omega)]
                 (repeat' split) <;> first | (exfalso; omega) | exact e.1 | exact e.2.1 | exact e.2.2)))
      · skip
        refine r_145_38 (hG := hL.GR hG) (h0 := (by have hb := tmL_b (ab := abM σ h) (P := P) hP5 (lg := 90 < σ 82 h) (tg := σ 84 h); have hl := hL.2.1; have hzz : Zsub (τ 93 4) 1 = τ 93 4 - 1 := Zsub_eq (by omega) (by omega); rw [Zadd_eq (by omega) (by omega)]; omega)) (k := ?_)
        (first
         | exact hn (by omega)
         | (have hb := tmL_b (ab := abM σ h) (P := P) hP5 (lg := 90 < σ 82 h) (tg := σ 84 h)
            have hl := hL.2.1
            have hzz : Zsub (τ 93 4) 1 = τ 93 4 - 1 := Zsub_eq (by omega) (by omega)
            refine hv (by omega) τ _ (hL.GR hG) (fun c j q => hL.1 c j (by omega) (by omega)) ?_
            first
            | (rw [if_neg (by omega)])
            | (have e := hL.2.2 i.toNat _ (List.getElem?_eq_getElem (show i.toNat < (tmL (abM σ h) P (90 < σ 82 h) (σ 84 h)).length by omega))
               have ed : (tmL (abM σ h) P (90 < σ 82 h) (σ 84 h)).getD i.toNat (0, 0, 0) = (tmL (abM σ h) P (90 < σ 82 h) (σ 84 h))[i.toNat]'(by omega) := by rw [List.getD_eq_getElem?_getD, List.getElem?_eq_getElem (by omega)]; rfl
               rw [show (30 : Int) * 4 + ((i.toNat : Nat) : Int) = 120 + i by omega] at e
               rw [if_pos (by omega), ed, Zadd_eq (by omega) (by omega)]
               (repeat' split) <;> first | (exfalso; omega) | exact e.1 | exact e.2.1 | exact e.2.2)))
    · dsimp only [Option.toList_some, List.cons_append, List.nil_append]
      refine r_145_29  (ht := fun c => absurd c (by decide)) (hf := fun _ => ?_)
      refine r_145_32  (k := ?_)
      (first
       | exact hn (by omega)
       | (have hb := tmL_b (ab := abM σ h) (P := P) hP5 (lg := 90 < σ 82 h) (tg := σ 84 h)
          have hl := hL.2.1
          have hzz : Zsub (τ 93 4) 1 = τ 93 4 - 1 := Zsub_eq (by omega) (by omega)
          refine hv (by omega) τ _ (hL.GR hG) (fun c j q => hL.1 c j (by omega) (by omega)) ?_
          first
          | (rw [if_neg (by omega)])
          | (have e := hL.2.2 i.toNat _ (List.getElem?_eq_getElem (show i.toNat < (tmL (abM σ h) P (90 < σ 82 h) (σ 84 h)).length by omega))
             have ed : (tmL (abM σ h) P (90 < σ 82 h) (σ 84 h)).getD i.toNat (0, 0, 0) = (tmL (abM σ h) P (90 < σ 82 h) (σ 84 h))[i.toNat]'(by omega) := by rw [List.getD_eq_getElem?_getD, List.getElem?_eq_getElem (by omega)]; rfl
             rw [show (30 : Int) * 4 + ((i.toNat : Nat) : Int) = 120 + i by omega] at e
             rw [if_pos (by omega), ed, Zadd_eq (by omega) (by omega)]
             (repeat' split) <;> first | (exfalso; omega) | exact e.1 | exact e.2.1 | exact e.2.2)))
  · dsimp only [Option.toList_some, List.cons_append, List.nil_append]
    refine r_145_5  (ht := fun c => absurd c (by decide)) (hf := fun _ => ?_)
    refine r_145_8  (k := ?_)
    (first
     | exact hn (by omega)
     | (have hb := tmL_b (ab := abM σ h) (P := P) hP5 (lg := 90 < σ 82 h) (tg := σ 84 h)
        have hl := hL.2.1
        have hzz : Zsub (τ 93 4) 1 = τ 93 4 - 1 := Zsub_eq (by omega) (by omega)
        refine hv (by omega) τ _ (hL.GR hG) (fun c j q => hL.1 c j (by omega) (by omega)) ?_
        first
        | (rw [if_neg (by omega)])
        | (have e := hL.2.2 i.toNat _ (List.getElem?_eq_getElem (show i.toNat < (tmL (abM σ h) P (90 < σ 82 h) (σ 84 h)).length by omega))
           have ed : (tmL (abM σ h) P (90 < σ 82 h) (σ 84 h)).getD i.toNat (0, 0, 0) = (tmL (abM σ h) P (90 < σ 82 h) (σ 84 h))[i.toNat]'(by omega) := by rw [List.getD_eq_getElem?_getD, List.getElem?_eq_getElem (by omega)]; rfl
           rw [show (30 : Int) * 4 + ((i.toNat : Nat) : Int) = 120 + i by omega] at e
           rw [if_pos (by omega), ed, Zadd_eq (by omega) (by omega)]
           (repeat' split) <;> first | (exfalso; omega) | exact e.1 | exact e.2.1 | exact e.2.2)))
