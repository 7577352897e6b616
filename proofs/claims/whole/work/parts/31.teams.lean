/-! teams: the lists, purely; the class -/
abbrev Tm : Type := Int × Int × Int
def TLs (σ : Mem) (a o : Int) (l : List Tm) : Prop := ∀ (i : Nat) (e : Tm), l[i]? = some e → σ a (o + i) = e.1 ∧ σ (a + 1) (o + i) = e.2.1 ∧ σ (a + 2) (o + i) = e.2.2
def sgN (ab : Int → Int → Bool) (tg : Int) : Nat → List Tm
  | 0 => []
  | k + 1 => sgN ab tg k ++ (if ab k 0 = true ∧ ab k tg = true then [((k : Int), -1, -1)] else [])
def prI (ab : Int → Int → Bool) (tg : Int) (x : Nat) : Nat → List Tm
  | 0 => []
  | k + 1 => prI ab tg x k ++ (if x < k ∧ (ab x 0 = true ∧ ab x tg = true) ∧ (ab k 0 = true ∧ ab k tg = true) then [((x : Int), (k : Int), -1)] else [])
def prN (ab : Int → Int → Bool) (tg : Int) (P : Nat) : Nat → List Tm
  | 0 => []
  | x + 1 => prN ab tg P x ++ prI ab tg x P
def rlF (ab : Int → Int → Bool) (x y tg : Int) : Nat → Int
  | 0 => -1
  | k + 1 => if ¬ 9 - (k : Int) = tg ∧ (ab x 0 = true ∧ ab x (9 - (k : Int)) = true) ∧ (ab y (9 - (k : Int)) = true ∧ ab y tg = true) then 9 - (k : Int) else rlF ab x y tg k
def rlX (ab : Int → Int → Bool) (x y tg : Int) : Int := if x = y then -1 else rlF ab x y tg 9
def rlI (ab : Int → Int → Bool) (tg : Int) (x : Nat) : Nat → List Tm
  | 0 => []
  | k + 1 => rlI ab tg x k ++ (if rlX ab x k tg = -1 then [] else [((x : Int), (k : Int), rlX ab x k tg)])
def rlN (ab : Int → Int → Bool) (tg : Int) (P : Nat) : Nat → List Tm
  | 0 => []
  | x + 1 => rlN ab tg P x ++ rlI ab tg x P
/-- the teams of a hearing -/
def tmL (ab : Int → Int → Bool) (P : Nat) (lg : Prop) [Decidable lg] (tg : Int) : List Tm := if lg then prN ab tg P P else if (sgN ab tg P).length = 0 then rlN ab tg P P else sgN ab tg P
theorem sgN_s {ab : Int → Int → Bool} {tg : Int} {k : Nat} : sgN ab tg (k + 1) = sgN ab tg k ++ (if ab k 0 = true ∧ ab k tg = true then [((k : Int), -1, -1)] else []) := rfl
theorem prI_s {ab : Int → Int → Bool} {tg : Int} {x k : Nat} : prI ab tg x (k + 1) = prI ab tg x k ++ (if x < k ∧ (ab x 0 = true ∧ ab x tg = true) ∧ (ab k 0 = true ∧ ab k tg = true) then [((x : Int), (k : Int), -1)] else []) := rfl
theorem prN_s {ab : Int → Int → Bool} {tg : Int} {P x : Nat} : prN ab tg P (x + 1) = prN ab tg P x ++ prI ab tg x P := rfl
theorem rlF_s {ab : Int → Int → Bool} {x y tg : Int} {k : Nat} : rlF ab x y tg (k + 1) = if ¬ 9 - (k : Int) = tg ∧ (ab x 0 = true ∧ ab x (9 - (k : Int)) = true) ∧ (ab y (9 - (k : Int)) = true ∧ ab y tg = true) then 9 - (k : Int) else rlF ab x y tg k := rfl
theorem rlI_s {ab : Int → Int → Bool} {tg : Int} {x k : Nat} : rlI ab tg x (k + 1) = rlI ab tg x k ++ (if rlX ab x k tg = -1 then [] else [((x : Int), (k : Int), rlX ab x k tg)]) := rfl
theorem rlN_s {ab : Int → Int → Bool} {tg : Int} {P x : Nat} : rlN ab tg P (x + 1) = rlN ab tg P x ++ rlI ab tg x P := rfl
theorem sgN_b {ab : Int → Int → Bool} {tg : Int} (k : Nat) : (sgN ab tg k).length ≤ k := by
  induction k with
  | zero => exact Nat.le_refl 0
  | succ k ih => rw [sgN_s, List.length_append]; split <;> simp <;> omega
theorem prI_b {ab : Int → Int → Bool} {tg : Int} {x : Nat} (k : Nat) : (prI ab tg x k).length + x + 1 ≤ k ∨ (prI ab tg x k = [] ∧ k ≤ x + 1) := by
  induction k with
  | zero => exact Or.inr ⟨rfl, by omega⟩
  | succ k ih =>
    rw [prI_s]
    split
    · rename_i h
      rcases ih with q | ⟨q, q2⟩
      · left; rw [List.length_append]; simp; omega
      · left; rw [q]; simp; omega
    · rw [List.append_nil]
      rcases ih with q | ⟨q, q2⟩
      · left; omega
      · rw [q]
        by_cases h : k + 1 ≤ x + 1
        · exact Or.inr ⟨rfl, h⟩
        · left; simp; omega
theorem prI_0 {ab : Int → Int → Bool} {tg : Int} {x : Nat} : prI ab tg x (x + 1) = [] := by
  rcases prI_b (ab := ab) (tg := tg) (x := x) (x + 1) with q | q
  · exact List.eq_nil_of_length_eq_zero (by omega)
  · exact q.1
theorem prI_n {ab : Int → Int → Bool} {tg : Int} {x : Nat} (h : ¬ (ab x 0 = true ∧ ab x tg = true)) (k : Nat) : prI ab tg x k = [] := by
  induction k with
  | zero => rfl
  | succ k ih => rw [prI_s, ih, if_neg (fun q => h q.2.1)]; rfl
theorem prN_b {ab : Int → Int → Bool} {tg : Int} {P : Nat} (hP : P ≤ 5) (x : Nat) : (prN ab tg P x).length ≤ 4 * x := by
  induction x with
  | zero => exact Nat.le_refl 0
  | succ x ih =>
    rw [prN_s, List.length_append]
    rcases prI_b (ab := ab) (tg := tg) (x := x) P with q | ⟨q, q2⟩
    · omega
    · rw [q]; simp; omega
theorem rlF_b {ab : Int → Int → Bool} {x y tg : Int} (k : Nat) (h : k ≤ 9) : rlF ab x y tg k = -1 ∨ (1 ≤ rlF ab x y tg k ∧ rlF ab x y tg k ≤ 9) := by
  induction k with
  | zero => exact Or.inl rfl
  | succ k ih =>
    rw [rlF_s]
    split
    · right; omega
    · exact ih (by omega)
theorem rlF_1 {ab : Int → Int → Bool} {x y tg : Int} (h : ¬ ab x 0 = true) (k : Nat) : rlF ab x y tg k = -1 := by
  induction k with
  | zero => rfl
  | succ k ih => rw [rlF_s, if_neg (fun q => h q.2.1.1), ih]
theorem rlF_2 {ab : Int → Int → Bool} {x y tg : Int} (h : ¬ ab y tg = true) (k : Nat) : rlF ab x y tg k = -1 := by
  induction k with
  | zero => rfl
  | succ k ih => rw [rlF_s, if_neg (fun q => h q.2.2.2), ih]
theorem rlX_b {ab : Int → Int → Bool} {x y tg : Int} : rlX ab x y tg = -1 ∨ (1 ≤ rlX ab x y tg ∧ rlX ab x y tg ≤ 9 ∧ ¬ x = y) := by
  unfold rlX
  split
  · exact Or.inl rfl
  · rename_i h
    rcases rlF_b (ab := ab) (x := x) (y := y) (tg := tg) 9 (by omega) with q | q
    · exact Or.inl q
    · exact Or.inr ⟨q.1, q.2, h⟩
theorem rlI_b {ab : Int → Int → Bool} {tg : Int} {x : Nat} (k : Nat) : (rlI ab tg x k).length ≤ k ∧ (x < k → (rlI ab tg x k).length + 1 ≤ k) := by
  induction k with
  | zero => exact ⟨Nat.le_refl 0, fun h => by omega⟩
  | succ k ih =>
    rw [rlI_s]
    split
    · rw [List.append_nil]
      exact ⟨by omega, fun h => by omega⟩
    · rename_i h
      rw [List.length_append]
      have q := rlX_b (ab := ab) (x := x) (y := k) (tg := tg)
      have q2 : ¬ x = k := by omega
      simp only [List.length_cons, List.length_nil]
      exact ⟨by omega, fun h => by omega⟩
theorem rlN_b {ab : Int → Int → Bool} {tg : Int} {P : Nat} (hP : P ≤ 5) (x : Nat) (hx : x ≤ P) : (rlN ab tg P x).length ≤ 4 * x := by
  induction x with
  | zero => exact Nat.le_refl 0
  | succ x ih =>
    rw [rlN_s, List.length_append]
    have q := ih (by omega)
    have q2 := (rlI_b (ab := ab) (tg := tg) (x := x) P).2 (by omega)
    omega
theorem tmL_b {ab : Int → Int → Bool} {P : Nat} (hP : P ≤ 5) {lg : Prop} [Decidable lg] {tg : Int} : (tmL ab P lg tg).length ≤ 20 := by
  unfold tmL
  split
  · have := prN_b (ab := ab) (tg := tg) hP P; omega
  · split
    · have := rlN_b (ab := ab) (tg := tg) hP P (Nat.le_refl _); omega
    · have := sgN_b (ab := ab) (tg := tg) P; omega
theorem TLs_add {σ τ : Mem} {a o : Int} {l : List Tm} {x y z : Int} (h : TLs σ a o l) (hf : ∀ c j, a ≤ c → c ≤ a + 2 → ¬ j = o + l.length → τ c j = σ c j) (h1 : τ a (o + l.length) = x) (h2 : τ (a + 1) (o + l.length) = y) (h3 : τ (a + 2) (o + l.length) = z) : TLs τ a o (l ++ [(x, y, z)]) := by
  intro i e he
  by_cases q : i < l.length
  · rw [List.getElem?_append_left q] at he
    obtain ⟨p1, p2, p3⟩ := h i e he
    exact ⟨by rw [hf _ _ (by omega) (by omega) (by omega)]; exact p1, by rw [hf _ _ (by omega) (by omega) (by omega)]; exact p2, by rw [hf _ _ (by omega) (by omega) (by omega)]; exact p3⟩
  · rw [List.getElem?_append_right (by omega)] at he
    have q2 : i - l.length = 0 := by
      cases hq : i - l.length with
      | zero => rfl
      | succ m => rw [hq] at he; simp at he
    rw [q2] at he
    have q3 : i = l.length := by omega
    subst q3
    have e2 : e = (x, y, z) := by simpa using he.symm
    subst e2
    exact ⟨h1, h2, h3⟩
/-- the class's Teams at K holds the list l; all else is as in σ0 -/
def TmS (K : Int) (σ0 σ : Mem) (l : List Tm) : Prop := (∀ c j, ¬ (c = K ∧ j = 4) → ¬ (K + 1 ≤ c ∧ c ≤ K + 3) → σ c j = σ0 c j) ∧ σ K 4 = (l.length : Int) ∧ TLs σ (K + 1) 0 l
theorem TmS.add {K : Int} {σ0 σ : Mem} {l : List Tm} (h : TmS K σ0 σ l) (hl : l.length < 20) (x y z : Int) : TmS K σ0 (wrM (wrM (wrM (wrM σ (K + 1) (σ K 4) x) (K + 2) (σ K 4) y) (K + 3) (σ K 4) z) K 4 (Zadd (σ K 4) 1)) (l ++ [(x, y, z)]) := by
  obtain ⟨h1, h2, h3⟩ := h
  refine ⟨fun c j q1 q2 => ?_, ?_, ?_⟩
  · rw [wr_if, if_neg q1, wr_ne (by omega), wr_ne (by omega), wr_ne (by omega)]
    exact h1 c j q1 q2
  · rw [wr_same, h2, Zadd_eq (by omega) (by omega), List.length_append]
    simp
  · refine TLs_add (σ := σ) h3 (fun c j q1 q2 q3 => ?_) ?_ ?_ ?_
    · rw [wr_ne (by omega), wr_nej (by omega), wr_nej (by omega), wr_nej (by omega)]
    · rw [wr_ne (by omega), wr_ne (by omega), wr_ne (by omega), wr_if, if_pos (by omega)]
    · rw [wr_ne (by omega), wr_ne (by omega), wr_if, if_pos (by omega)]
    · rw [wr_ne (by omega), wr_if, if_pos (by omega)]
def AB (K : Int) (σ : Mem) (ab : Int → Int → Bool) : Prop := ∀ p t, 0 ≤ p → p ≤ 4 → 0 ≤ t → t ≤ 9 → σ (K + 4) (p * 10 + t) = if ab p t = true then 1 else 0
theorem AB.ls {K : Int} {σ0 σ : Mem} {l : List Tm} {ab : Int → Int → Bool} (h : AB K σ0 ab) (hL : TmS K σ0 σ l) : AB K σ ab := fun p t h1 h2 h3 h4 => by
  rw [hL.1 _ _ (by omega) (by omega)]; exact h p t h1 h2 h3 h4
/-- who of the class's persons is able, in a tongue, for the hearing at cell H -/
def abC (σ : Mem) (H p t : Int) : Bool := decide (0 ≤ p ∧ p < σ 3 2 ∧ p < 5) && decide (σ 5 (p * 20 + σ H 0) = 0) && decide (σ H 4 ≤ gdC σ p (σ H 5) t)
theorem abC_fr {σ τ : Mem} {H : Int} (hH : 114 ≤ H) (h : ∀ c j, (c ≤ 12 ∨ 114 ≤ c) → τ c j = σ c j) (p t : Int) : abC τ H p t = abC σ H p t := by
  have e : ∀ c, (c ≤ 12 ∨ 114 ≤ c) → τ c = σ c := fun c hc => funext fun j => h c j hc
  unfold abC gdC
  rw [e 3 (by decide), e 5 (by decide), e H (by omega), e 6 (by decide), e 7 (by decide), e 8 (by decide), e 9 (by decide), e 10 (by decide), e 11 (by decide), e 12 (by decide)]
theorem PV.fr {σ τ : Mem} (hP : PV σ) (h : ∀ c j, (c ≤ 12 ∨ 114 ≤ c) → τ c j = σ c j) : PV τ := by
  have e : ∀ c, (c ≤ 12 ∨ 114 ≤ c) → τ c = σ c := fun c hc => funext fun j => h c j hc
  unfold PV
  rw [e 6 (by decide), e 7 (by decide), e 9 (by decide), e 10 (by decide)]
  exact hP
def b01 (b : Prop) [Decidable b] : Int := if b then 1 else 0
set_option maxHeartbeats 2000000 in
theorem s_isBarred {d : Nat} {σ : Mem} {n : Nat} {Q : Pst} {p w : Int} (hG : GR σ) (ht : (0 ≤ p ∧ p < σ 3 2 ∧ p < 5) ∧ (0 ≤ w ∧ w ≤ 19) ∧ ¬ σ 5 (p * 20 + w) = 0 → Q (some (0, 1)) σ n) (hf : ¬ ((0 ≤ p ∧ p < σ 3 2 ∧ p < 5) ∧ (0 ≤ w ∧ w ≤ 19) ∧ ¬ σ 5 (p * 20 + w) = 0) → Q (some (0, 0)) σ n) : EVM (d + 2) 37 [(16, 3), (0, p), (0, w)] σ n Q := by
  show EV (d + 2) 37 0 [(16, 3), (0, p), (0, w)] [] σ n Q
  refine r_37_0  (k := ?_)
  refine s_has (fun c => ?_) (fun c => ?_)
  · dsimp only [Option.toList_some, List.cons_append, List.nil_append]
    refine r_37_5  (ht := fun c => absurd c (by decide)) (hf := fun _ => ?_)
    refine r_37_8  (k := ?_)
    refine s_isCase (fun c => ?_) (fun c => ?_)
    · dsimp only [Option.toList_some, List.cons_append, List.nil_append]
      refine r_37_12  (ht := fun c => absurd c (by decide)) (hf := fun _ => ?_)
      refine r_37_15 (hG := hG) (h0 := (by first | omega | (simp (disch := omega) only [Zadd_eq, Zsub_eq, Zmul_eq]; omega))) (ht := fun c => ?_) (hf := fun c => ?_)
      · skip
        refine r_37_33  (k := ?_)
        (first | exact ht (by omega) | exact hf (by omega) | (simp (disch := omega) only [Zadd_eq, Zmul_eq] at *; first | exact ht (by omega) | exact hf (by omega)))
      · skip
        refine r_37_29  (k := ?_)
        (first | exact ht (by omega) | exact hf (by omega) | (simp (disch := omega) only [Zadd_eq, Zmul_eq] at *; first | exact ht (by omega) | exact hf (by omega)))
    · dsimp only [Option.toList_some, List.cons_append, List.nil_append]
      refine r_37_12  (ht := fun _ => ?_) (hf := fun c => absurd c (by decide))
      refine r_37_33  (k := ?_)
      (first | exact ht (by omega) | exact hf (by omega) | (simp (disch := omega) only [Zadd_eq, Zmul_eq] at *; first | exact ht (by omega) | exact hf (by omega)))
  · dsimp only [Option.toList_some, List.cons_append, List.nil_append]
    refine r_37_5  (ht := fun _ => ?_) (hf := fun c => absurd c (by decide))
    refine r_37_33  (k := ?_)
    (first | exact ht (by omega) | exact hf (by omega) | (simp (disch := omega) only [Zadd_eq, Zmul_eq] at *; first | exact ht (by omega) | exact hf (by omega)))
set_option maxHeartbeats 2000000 in
theorem s_homeOf {d : Nat} {σ : Mem} {n : Nat} {Q : Pst} {p : Int} (hG : GR σ) (k : ∀ v, v = (if 0 ≤ p ∧ p < σ 3 2 ∧ p < 5 then σ 4 p else -1 : Int) → Q (some (0, v)) σ n) : EVM (d + 1) 36 [(16, 3), (0, p)] σ n Q := by
  show EV (d + 1) 36 0 [(16, 3), (0, p)] [] σ n Q
  refine r_36_0  (k := ?_)
  refine s_has (fun c => ?_) (fun c => ?_)
  · dsimp only [Option.toList_some, List.cons_append, List.nil_append]
    refine r_36_5  (ht := fun c => absurd c (by decide)) (hf := fun _ => ?_)
    refine r_36_8 (hG := hG) (h0 := (by first | omega | (simp (disch := omega) only [Zadd_eq, Zsub_eq, Zmul_eq]; omega))) (k := ?_)
    exact k _ (by first | rw [if_pos (by omega)] | rw [if_neg (by omega)])
  · dsimp only [Option.toList_some, List.cons_append, List.nil_append]
    refine r_36_5  (ht := fun _ => ?_) (hf := fun c => absurd c (by decide))
    refine r_36_17  (k := ?_)
    exact k _ (by first | rw [if_pos (by omega)] | rw [if_neg (by omega)])
