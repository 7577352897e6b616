/-! printed by wip/whole/specs38.py: what the constructors leave, as a list of writes -/
abbrev Opr := (Int × Int × Int) ⊕ (Int × (Int ⊕ Nat))
def apO : Opr → Mem → Mem
  | .inl (c, j, v), σ => wrM σ c j v
  | .inr (c, .inl v), σ => mkM σ c (fun _ => v)
  | .inr (c, .inr k), σ => mkM σ c (dfl k ftF)
def ap : List Opr → Mem → Mem
  | [], σ => σ
  | o :: l, σ => apO o (ap l σ)
def rdL : List Opr → Int → Int → Option Int
  | [], _, _ => none
  | .inl (c, j, v) :: l, a, b => if a = c ∧ b = j then some v else rdL l a b
  | .inr (c, .inl v) :: l, a, b => if a = c then some v else rdL l a b
  | .inr (c, .inr k) :: l, a, b => if a = c then some (dfl k ftF b) else rdL l a b
theorem rdL_ok : ∀ {l : List Opr} {τ : Mem} {a b v : Int}, rdL l a b = some v → ap l τ a b = v
  | [], _, _, _, _, h => by cases h
  | .inl (c, j, w) :: l, τ, a, b, v, h => by
    show (if a = c ∧ b = j then w else ap l τ a b) = v
    rw [rdL] at h
    by_cases q : a = c ∧ b = j
    · rw [if_pos q] at h ⊢; exact Option.some.inj h
    · rw [if_neg q] at h ⊢; exact rdL_ok h
  | .inr (c, .inl w) :: l, τ, a, b, v, h => by
    show (if a = c then w else ap l τ a b) = v
    rw [rdL] at h
    by_cases q : a = c
    · rw [if_pos q] at h ⊢; exact Option.some.inj h
    · rw [if_neg q] at h ⊢; exact rdL_ok h
  | .inr (c, .inr k) :: l, τ, a, b, v, h => by
    show (if a = c then dfl k ftF b else ap l τ a b) = v
    rw [rdL] at h
    by_cases q : a = c
    · rw [if_pos q] at h ⊢; exact Option.some.inj h
    · rw [if_neg q] at h ⊢; exact rdL_ok h
theorem rdL_no : ∀ {l : List Opr} {τ : Mem} {a b : Int}, rdL l a b = none → ap l τ a b = τ a b
  | [], _, _, _, _ => rfl
  | .inl (c, j, w) :: l, τ, a, b, h => by
    show (if a = c ∧ b = j then w else ap l τ a b) = τ a b
    rw [rdL] at h
    by_cases q : a = c ∧ b = j
    · rw [if_pos q] at h; cases h
    · rw [if_neg q] at h ⊢; exact rdL_no h
  | .inr (c, .inl w) :: l, τ, a, b, h => by
    show (if a = c then w else ap l τ a b) = τ a b
    rw [rdL] at h
    by_cases q : a = c
    · rw [if_pos q] at h; cases h
    · rw [if_neg q] at h ⊢; exact rdL_no h
  | .inr (c, .inr k) :: l, τ, a, b, h => by
    show (if a = c then dfl k ftF b else ap l τ a b) = τ a b
    rw [rdL] at h
    by_cases q : a = c
    · rw [if_pos q] at h; cases h
    · rw [if_neg q] at h ⊢; exact rdL_no h
def opC : Opr → Int
  | .inl (c, _, _) => c
  | .inr (c, _) => c
/-- the row a as the list leaves it: some (some v): v all over; some none: as it was before the list -/
def zr : List Opr → Int → Option (Option Int)
  | [], _ => some none
  | .inl (c, _, _) :: l, a => if a = c then none else zr l a
  | .inr (c, .inl v) :: l, a => if a = c then some (some v) else zr l a
  | .inr (c, .inr _) :: l, a => if a = c then none else zr l a
theorem zr_ok : ∀ {l : List Opr} {τ : Mem} {a v : Int}, zr l a = some (some v) → ∀ b, ap l τ a b = v
  | [], _, _, _, h => by cases h
  | .inl (c, j, w) :: l, τ, a, v, h => fun b => by
    show (if a = c ∧ b = j then w else ap l τ a b) = v
    rw [zr] at h
    by_cases q : a = c
    · rw [if_pos q] at h; cases h
    · rw [if_neg q] at h; rw [if_neg (fun x => q x.1)]; exact zr_ok h b
  | .inr (c, .inl w) :: l, τ, a, v, h => fun b => by
    show (if a = c then w else ap l τ a b) = v
    rw [zr] at h
    by_cases q : a = c
    · rw [if_pos q] at h ⊢; exact Option.some.inj (Option.some.inj h)
    · rw [if_neg q] at h ⊢; exact zr_ok h b
  | .inr (c, .inr k) :: l, τ, a, v, h => fun b => by
    show (if a = c then dfl k ftF b else ap l τ a b) = v
    rw [zr] at h
    by_cases q : a = c
    · rw [if_pos q] at h; cases h
    · rw [if_neg q] at h ⊢; exact zr_ok h b
theorem zr_no : ∀ {l : List Opr} {τ : Mem} {a : Int}, zr l a = some none → ∀ b, ap l τ a b = τ a b
  | [], _, _, _ => fun _ => rfl
  | .inl (c, j, w) :: l, τ, a, h => fun b => by
    show (if a = c ∧ b = j then w else ap l τ a b) = τ a b
    rw [zr] at h
    by_cases q : a = c
    · rw [if_pos q] at h; cases h
    · rw [if_neg q] at h; rw [if_neg (fun x => q x.1)]; exact zr_no h b
  | .inr (c, .inl w) :: l, τ, a, h => fun b => by
    show (if a = c then w else ap l τ a b) = τ a b
    rw [zr] at h
    by_cases q : a = c
    · rw [if_pos q] at h; cases h
    · rw [if_neg q] at h ⊢; exact zr_no h b
  | .inr (c, .inr k) :: l, τ, a, h => fun b => by
    show (if a = c then dfl k ftF b else ap l τ a b) = τ a b
    rw [zr] at h
    by_cases q : a = c
    · rw [if_pos q] at h; cases h
    · rw [if_neg q] at h ⊢; exact zr_no h b

def RWy (σ0 σ : Mem) (c p : Int) : Prop := (∀ a j, ¬ a = c → σ a j = σ0 a j) ∧ ∀ j, σ c j = if 0 ≤ j ∧ j < p ∧ ¬ j / 6 = j % 6 then 60 else 0
theorem RWy.step {σ0 σ : Mem} {c p v : Int} (h : RWy σ0 σ c p) (hp : 0 ≤ p) (hv : (p / 6 = p % 6 ∧ v = 0) ∨ (¬ p / 6 = p % 6 ∧ v = 60)) : RWy σ0 (wrM σ c p v) c (p + 1) := by
  refine ⟨fun a j ha => (wr_ne ha).trans (h.1 a j ha), fun j => ?_⟩
  rw [wr_c]
  by_cases hj : j = p
  · subst hj
    rw [if_pos rfl]
    rcases hv with ⟨a, b⟩ | ⟨a, b⟩
    · rw [if_neg (fun q => q.2.2 a), b]
    · rw [if_pos ⟨hp, by omega, a⟩, b]
  · rw [if_neg hj, h.2 j]
    by_cases q : 0 ≤ j ∧ j < p ∧ ¬ j / 6 = j % 6
    · rw [if_pos q, if_pos ⟨q.1, by omega, q.2.2⟩]
    · rw [if_neg q, if_neg (fun x => q ⟨x.1, by omega, x.2.2⟩)]
theorem Zd6' : ∀ x : Fin 36, Zdiv ((x.val : Nat) : Int) 6 = ((x.val : Nat) : Int) / 6 ∧ Zrem ((x.val : Nat) : Int) 6 = ((x.val : Nat) : Int) % 6 := by decide +kernel
theorem Zd6 {x : Int} (h : 0 ≤ x) (h2 : x < 36) : Zdiv x 6 = x / 6 ∧ Zrem x 6 = x % 6 := by
  have q := Zd6' ⟨x.toNat, by omega⟩
  have e : ((x.toNat : Nat) : Int) = x := by omega
  rw [e] at q
  exact q
theorem l_81 {d n : Nat} {Q : Pst} {σ0 : Mem} (hr : σ0 1 0 = 2) : ∀ (f : Nat) (i : Int) (σ : Mem), 0 ≤ i → i ≤ 36 → 36 - i < f → RWy σ0 σ 2 i → (∀ σ', RWy σ0 σ' 2 36 → Q none (wrM σ' 1 1 30) n) → EV d 81 14 [(20, 1), (0, i)] [] σ n Q := by
  intro f
  induction f with
  | zero => intro i σ h0 h1 hf; exfalso; omega
  | succ f ih =>
    intro i σ h0 h1 hf h k
    refine b_81_14 (ht := fun c => ?_) (hf := fun c => ?_)
    · have e : i = 36 := by omega
      subst e
      exact b_81_49 (by decide) (k σ h)
    · have z := Zd6 h0 c
      have e0 : σ 1 0 = 2 := (h.1 1 0 (by decide)).trans hr
      have hz : Zadd i 1 = i + 1 := Zadd_eq (by omega) (by omega)
      have hb : 0 ≤ i ∧ i < lnF 2 := ⟨h0, by rw [show lnF 2 = 36 from by decide +kernel]; exact c⟩
      refine b_81_20 (by decide) (ht := fun g => ?_) (hf := fun g => ?_)
      · rw [z.1, z.2] at g
        rw [e0]
        refine b_81_40 (by decide) hb ?_
        rw [hz]
        exact ih _ _ (by omega) (by omega) (by omega) (h.step h0 (Or.inr ⟨g, rfl⟩)) k
      · rw [z.1, z.2] at g
        rw [e0]
        refine b_81_36 (by decide) hb ?_
        rw [hz]
        exact ih _ _ (by omega) (by omega) (by omega) (h.step h0 (Or.inl ⟨g, rfl⟩)) k
theorem l_121i {d n : Nat} {Q : Pst} {σ0 : Mem} (hr : σ0 69 0 = 70) {a : Int} (ha : 0 ≤ a) (ha2 : a < 6) : ∀ (f : Nat) (b : Int) (σ : Mem), 0 ≤ b → b ≤ 6 → 6 - b < f → RWy σ0 σ 70 (6 * a + b) → (∀ σ', RWy σ0 σ' 70 (6 * a + 6) → EV d 121 622 [(22, 69), (0, a), (0, 6)] [] σ' n Q) → EV d 121 588 [(22, 69), (0, a), (0, b)] [] σ n Q := by
  intro f
  induction f with
  | zero => intro b σ h0 h1 hf; exfalso; omega
  | succ f ih =>
    intro b σ h0 h1 hf h k
    refine b_121_588 (ht := fun c => ?_) (hf := fun c => ?_)
    · have e : b = 6 := by omega
      subst e
      exact k σ h
    · have e0 : σ 69 0 = 70 := (h.1 69 0 (by decide)).trans hr
      have hz : Zadd b 1 = b + 1 := Zadd_eq (by omega) (by omega)
      have hm : Zadd (Zmul 6 a) b = 6 * a + b := by rw [Zmul_eq (by omega) (by omega), Zadd_eq (by omega) (by omega)]
      have hb : 0 ≤ 6 * a + b ∧ 6 * a + b < lnF 70 := ⟨by omega, by rw [show lnF 70 = 36 from by decide +kernel]; omega⟩
      refine b_121_594 (by decide) (ht := fun g => ?_) (hf := fun g => ?_)
      · rw [e0, hm]
        refine b_121_613 (by decide) hb ?_
        rw [hz]
        refine ih _ _ (by omega) (by omega) (by omega) ?_ k
        have w := h.step (v := 60) hb.1 (Or.inr ⟨by omega, rfl⟩)
        rw [show 6 * a + (b + 1) = 6 * a + b + 1 from by omega]
        exact w
      · rw [e0, hm]
        refine b_121_609 (by decide) hb ?_
        rw [hz]
        refine ih _ _ (by omega) (by omega) (by omega) ?_ k
        have w := h.step (v := 0) hb.1 (Or.inl ⟨by omega, rfl⟩)
        rw [show 6 * a + (b + 1) = 6 * a + b + 1 from by omega]
        exact w
theorem l_121o {d n : Nat} {Q : Pst} {σ0 : Mem} (hr : σ0 69 0 = 70) : ∀ (f : Nat) (a : Int) (σ : Mem) (l2 : AV), 0 ≤ a → a ≤ 6 → 6 - a < f → RWy σ0 σ 70 (6 * a) → (∀ σ', RWy σ0 σ' 70 36 → Q none σ' n) → EV d 121 580 [(22, 69), (0, a), l2] [] σ n Q := by
  intro f
  induction f with
  | zero => intro a σ l2 h0 h1 hf; exfalso; omega
  | succ f ih =>
    intro a σ l2 h0 h1 hf h k
    refine b_121_580 (ht := fun c => ?_) (hf := fun c => ?_)
    · have e : a = 6 := by omega
      subst e
      exact b_121_628 (k σ h)
    · refine b_121_586 ?_
      refine l_121i hr h0 c 7 0 σ (by decide) (by decide) (by decide) (by rw [Int.add_zero]; exact h) (fun σ' h' => ?_)
      refine b_121_622 ?_
      rw [Zadd_eq (by omega) (by omega)]
      refine ih _ _ _ (by omega) (by omega) (by omega) ?_ k
      rw [show 6 * (a + 1) = 6 * a + 6 from by omega]
      exact h'

theorem k_33 {l : List Opr} {τ : Mem} {Q : Pst} (k : Q none (ap (.inl (3, 1, 5) :: .inr (5, .inl 0) :: .inl (3, 0, 4) :: .inr (4, .inl 0) :: l) τ) 6) : EVM 18 33 [(16, 3)] (ap l τ) 4 Q := by
  show EV 18 33 0 [(16, 3)] [] (ap l τ) 4 Q
  exact b_33_0 (n := 4) (x0 := 3) (h0 := by decide +kernel) (h1 := by decide +kernel) (h2 := by decide +kernel) (k := k)
theorem k_29 {l : List Opr} {τ : Mem} {Q : Pst} (k : Q none (ap (.inl (6, 6, 13) :: .inr (13, .inl 0) :: .inl (6, 5, 12) :: .inr (12, .inl 0) :: .inl (6, 4, 11) :: .inr (11, .inl 0) :: .inl (6, 3, 10) :: .inr (10, .inl 0) :: .inl (6, 2, 9) :: .inr (9, .inl 0) :: .inl (6, 1, 8) :: .inr (8, .inl 0) :: .inl (6, 0, 7) :: .inr (7, .inl 0) :: l) τ) 14) : EVM 18 29 [(15, 6)] (ap l τ) 7 Q := by
  show EV 18 29 0 [(15, 6)] [] (ap l τ) 7 Q
  exact b_29_0 (n := 7) (x0 := 6) (h0 := by decide +kernel) (h1 := by decide +kernel) (h2 := by decide +kernel) (h3 := by decide +kernel) (h4 := by decide +kernel) (h5 := by decide +kernel) (h6 := by decide +kernel) (h7 := by decide +kernel) (k := k)
theorem k_8 {l : List Opr} {τ : Mem} {Q : Pst} (k : Q none (ap (.inl (14, 0, 15) :: .inr (15, .inl (-1)) :: l) τ) 16) : EVM 18 8 [(11, 14)] (ap l τ) 15 Q := by
  show EV 18 8 0 [(11, 14)] [] (ap l τ) 15 Q
  exact b_8_0 (n := 15) (x0 := 14) (h0 := by decide +kernel) (h1 := by decide +kernel) (k := k)
theorem k_68_16 {l : List Opr} {τ : Mem} {Q : Pst} (k : Q none (ap (.inl (16, 3, 20) :: .inr (20, .inl 0) :: .inl (16, 2, 19) :: .inr (19, .inl 0) :: .inl (16, 1, 18) :: .inr (18, .inl 0) :: .inl (16, 0, 17) :: .inr (17, .inl 0) :: l) τ) 21) : EVM 18 68 [(19, 16)] (ap l τ) 17 Q := by
  show EV 18 68 0 [(19, 16)] [] (ap l τ) 17 Q
  exact b_68_0 (n := 17) (x0 := 16) (h0 := by decide +kernel) (h1 := by decide +kernel) (h2 := by decide +kernel) (h3 := by decide +kernel) (h4 := by decide +kernel) (k := k)
theorem k_0 {l : List Opr} {τ : Mem} {Q : Pst} (k : Q none (ap (.inl (21, 1, 23) :: .inr (23, .inl 0) :: .inl (21, 0, 22) :: .inr (22, .inl (-1)) :: l) τ) 24) : EVM 18 0 [(10, 21)] (ap l τ) 22 Q := by
  show EV 18 0 0 [(10, 21)] [] (ap l τ) 22 Q
  exact b_0_0 (n := 22) (x0 := 21) (h0 := by decide +kernel) (h1 := by decide +kernel) (h2 := by decide +kernel) (k := k)
theorem k_68_26 {l : List Opr} {τ : Mem} {Q : Pst} (k : Q none (ap (.inl (26, 3, 30) :: .inr (30, .inl 0) :: .inl (26, 2, 29) :: .inr (29, .inl 0) :: .inl (26, 1, 28) :: .inr (28, .inl 0) :: .inl (26, 0, 27) :: .inr (27, .inl 0) :: l) τ) 31) : EVM 17 68 [(19, 26)] (ap l τ) 27 Q := by
  show EV 17 68 0 [(19, 26)] [] (ap l τ) 27 Q
  exact b_68_0 (n := 27) (x0 := 26) (h0 := by decide +kernel) (h1 := by decide +kernel) (h2 := by decide +kernel) (h3 := by decide +kernel) (h4 := by decide +kernel) (k := k)
theorem k_68_31 {l : List Opr} {τ : Mem} {Q : Pst} (k : Q none (ap (.inl (31, 3, 35) :: .inr (35, .inl 0) :: .inl (31, 2, 34) :: .inr (34, .inl 0) :: .inl (31, 1, 33) :: .inr (33, .inl 0) :: .inl (31, 0, 32) :: .inr (32, .inl 0) :: l) τ) 36) : EVM 17 68 [(19, 31)] (ap l τ) 32 Q := by
  show EV 17 68 0 [(19, 31)] [] (ap l τ) 32 Q
  exact b_68_0 (n := 32) (x0 := 31) (h0 := by decide +kernel) (h1 := by decide +kernel) (h2 := by decide +kernel) (h3 := by decide +kernel) (h4 := by decide +kernel) (k := k)
theorem k_68_36 {l : List Opr} {τ : Mem} {Q : Pst} (k : Q none (ap (.inl (36, 3, 40) :: .inr (40, .inl 0) :: .inl (36, 2, 39) :: .inr (39, .inl 0) :: .inl (36, 1, 38) :: .inr (38, .inl 0) :: .inl (36, 0, 37) :: .inr (37, .inl 0) :: l) τ) 41) : EVM 17 68 [(19, 36)] (ap l τ) 37 Q := by
  show EV 17 68 0 [(19, 36)] [] (ap l τ) 37 Q
  exact b_68_0 (n := 37) (x0 := 36) (h0 := by decide +kernel) (h1 := by decide +kernel) (h2 := by decide +kernel) (h3 := by decide +kernel) (h4 := by decide +kernel) (k := k)
theorem k_68_41 {l : List Opr} {τ : Mem} {Q : Pst} (k : Q none (ap (.inl (41, 3, 45) :: .inr (45, .inl 0) :: .inl (41, 2, 44) :: .inr (44, .inl 0) :: .inl (41, 1, 43) :: .inr (43, .inl 0) :: .inl (41, 0, 42) :: .inr (42, .inl 0) :: l) τ) 46) : EVM 17 68 [(19, 41)] (ap l τ) 42 Q := by
  show EV 17 68 0 [(19, 41)] [] (ap l τ) 42 Q
  exact b_68_0 (n := 42) (x0 := 41) (h0 := by decide +kernel) (h1 := by decide +kernel) (h2 := by decide +kernel) (h3 := by decide +kernel) (h4 := by decide +kernel) (k := k)
theorem k_49 {l : List Opr} {τ : Mem} {Q : Pst} (k : Q none (ap (.inl (50, 0, 51) :: .inr (51, .inl 0) :: l) τ) 52) : EVM 18 49 [(18, 50)] (ap l τ) 51 Q := by
  show EV 18 49 0 [(18, 50)] [] (ap l τ) 51 Q
  exact b_49_0 (n := 51) (x0 := 50) (h0 := by decide +kernel) (h1 := by decide +kernel) (k := k)
theorem k_23 {l : List Opr} {τ : Mem} {Q : Pst} (k : Q none (ap (.inl (52, 5, 58) :: .inr (58, .inl 0) :: .inl (52, 4, 57) :: .inr (57, .inl 0) :: .inl (52, 3, 56) :: .inr (56, .inl 0) :: .inl (52, 2, 55) :: .inr (55, .inl 0) :: .inl (52, 1, 54) :: .inr (54, .inl 0) :: .inl (52, 0, 53) :: .inr (53, .inl 0) :: l) τ) 59) : EVM 18 23 [(14, 52)] (ap l τ) 53 Q := by
  show EV 18 23 0 [(14, 52)] [] (ap l τ) 53 Q
  exact b_23_0 (n := 53) (x0 := 52) (h0 := by decide +kernel) (h1 := by decide +kernel) (h2 := by decide +kernel) (h3 := by decide +kernel) (h4 := by decide +kernel) (h5 := by decide +kernel) (h6 := by decide +kernel) (k := k)
theorem k_14_59 {l : List Opr} {τ : Mem} {Q : Pst} (k : Q none (ap (.inl (59, 3, 63) :: .inr (63, .inl 0) :: .inl (59, 2, 62) :: .inr (62, .inl 0) :: .inl (59, 1, 61) :: .inr (61, .inl 0) :: .inl (59, 0, 60) :: .inr (60, .inl 0) :: l) τ) 64) : EVM 18 14 [(12, 59)] (ap l τ) 60 Q := by
  show EV 18 14 0 [(12, 59)] [] (ap l τ) 60 Q
  exact b_14_0 (n := 60) (x0 := 59) (h0 := by decide +kernel) (h1 := by decide +kernel) (h2 := by decide +kernel) (h3 := by decide +kernel) (h4 := by decide +kernel) (k := k)
theorem k_14_64 {l : List Opr} {τ : Mem} {Q : Pst} (k : Q none (ap (.inl (64, 3, 68) :: .inr (68, .inl 0) :: .inl (64, 2, 67) :: .inr (67, .inl 0) :: .inl (64, 1, 66) :: .inr (66, .inl 0) :: .inl (64, 0, 65) :: .inr (65, .inl 0) :: l) τ) 69) : EVM 18 14 [(12, 64)] (ap l τ) 65 Q := by
  show EV 18 14 0 [(12, 64)] [] (ap l τ) 65 Q
  exact b_14_0 (n := 65) (x0 := 64) (h0 := by decide +kernel) (h1 := by decide +kernel) (h2 := by decide +kernel) (h3 := by decide +kernel) (h4 := by decide +kernel) (k := k)
def J12 : List Opr := []
def J23 : List Opr := .inl (3, 1, 5) :: .inr (5, .inl 0) :: .inl (3, 0, 4) :: .inr (4, .inl 0) :: .inr (3, .inr 6) :: .inl (0, 0, 1) :: J12
def J34 : List Opr := .inl (6, 6, 13) :: .inr (13, .inl 0) :: .inl (6, 5, 12) :: .inr (12, .inl 0) :: .inl (6, 4, 11) :: .inr (11, .inl 0) :: .inl (6, 3, 10) :: .inr (10, .inl 0) :: .inl (6, 2, 9) :: .inr (9, .inl 0) :: .inl (6, 1, 8) :: .inr (8, .inl 0) :: .inl (6, 0, 7) :: .inr (7, .inl 0) :: .inr (6, .inr 5) :: .inl (0, 1, 3) :: J23
def J45 : List Opr := .inl (14, 0, 15) :: .inr (15, .inl (-1)) :: .inr (14, .inr 1) :: .inl (0, 2, 6) :: J34
def J56 : List Opr := .inl (16, 3, 20) :: .inr (20, .inl 0) :: .inl (16, 2, 19) :: .inr (19, .inl 0) :: .inl (16, 1, 18) :: .inr (18, .inl 0) :: .inl (16, 0, 17) :: .inr (17, .inl 0) :: .inr (16, .inr 9) :: .inl (0, 3, 14) :: J45
def J67 : List Opr := .inl (21, 1, 23) :: .inr (23, .inl 0) :: .inl (21, 0, 22) :: .inr (22, .inl (-1)) :: .inr (21, .inr 0) :: .inl (0, 4, 16) :: J56
def Jp0 : List Opr := .inl (24, 1, 25) :: .inr (25, .inl (-1)) :: .inl (24, 0, 21) :: .inr (24, .inr 7) :: .inl (0, 5, 21) :: J67
def Jq0 : List Opr := .inl (26, 3, 30) :: .inr (30, .inl 0) :: .inl (26, 2, 29) :: .inr (29, .inl 0) :: .inl (26, 1, 28) :: .inr (28, .inl 0) :: .inl (26, 0, 27) :: .inr (27, .inl 0) :: .inr (26, .inr 9) :: Jp0
def Jp1 : List Opr := .inl (25, 0, 26) :: Jq0
def Jq1 : List Opr := .inl (31, 3, 35) :: .inr (35, .inl 0) :: .inl (31, 2, 34) :: .inr (34, .inl 0) :: .inl (31, 1, 33) :: .inr (33, .inl 0) :: .inl (31, 0, 32) :: .inr (32, .inl 0) :: .inr (31, .inr 9) :: Jp1
def Jp2 : List Opr := .inl (25, 1, 31) :: Jq1
def Jq2 : List Opr := .inl (36, 3, 40) :: .inr (40, .inl 0) :: .inl (36, 2, 39) :: .inr (39, .inl 0) :: .inl (36, 1, 38) :: .inr (38, .inl 0) :: .inl (36, 0, 37) :: .inr (37, .inl 0) :: .inr (36, .inr 9) :: Jp2
def Jp3 : List Opr := .inl (25, 2, 36) :: Jq2
def Jq3 : List Opr := .inl (41, 3, 45) :: .inr (45, .inl 0) :: .inl (41, 2, 44) :: .inr (44, .inl 0) :: .inl (41, 1, 43) :: .inr (43, .inl 0) :: .inl (41, 0, 42) :: .inr (42, .inl 0) :: .inr (41, .inr 9) :: Jp3
def Jp4 : List Opr := .inl (25, 3, 41) :: Jq3
def J82 : List Opr := .inl (24, 5, 49) :: .inr (49, .inl 0) :: .inl (24, 4, 48) :: .inr (48, .inl 0) :: .inl (24, 3, 47) :: .inr (47, .inl 0) :: .inl (24, 2, 46) :: .inr (46, .inl 0) :: Jp4
def J93 : List Opr := .inl (50, 0, 51) :: .inr (51, .inl 0) :: .inr (50, .inr 8) :: .inl (0, 6, 24) :: J82
def J104 : List Opr := .inl (52, 5, 58) :: .inr (58, .inl 0) :: .inl (52, 4, 57) :: .inr (57, .inl 0) :: .inl (52, 3, 56) :: .inr (56, .inl 0) :: .inl (52, 2, 55) :: .inr (55, .inl 0) :: .inl (52, 1, 54) :: .inr (54, .inl 0) :: .inl (52, 0, 53) :: .inr (53, .inl 0) :: .inr (52, .inr 4) :: .inl (0, 7, 50) :: J93
def J115 : List Opr := .inl (59, 3, 63) :: .inr (63, .inl 0) :: .inl (59, 2, 62) :: .inr (62, .inl 0) :: .inl (59, 1, 61) :: .inr (61, .inl 0) :: .inl (59, 0, 60) :: .inr (60, .inl 0) :: .inr (59, .inr 2) :: .inl (0, 8, 52) :: J104
def J126 : List Opr := .inl (64, 3, 68) :: .inr (68, .inl 0) :: .inl (64, 2, 67) :: .inr (67, .inl 0) :: .inl (64, 1, 66) :: .inr (66, .inl 0) :: .inl (64, 0, 65) :: .inr (65, .inl 0) :: .inr (64, .inr 2) :: .inl (0, 9, 59) :: J115
def Jd : List Opr := .inl (0, 10, 64) :: J126
def Jr : List Opr := .inl (69, 61, 113) :: .inr (113, .inl 0) :: .inl (69, 60, 112) :: .inr (112, .inl 0) :: .inl (69, 59, 111) :: .inr (111, .inl 0) :: .inl (69, 58, 110) :: .inr (110, .inl 0) :: .inl (69, 57, 109) :: .inr (109, .inl 0) :: .inl (69, 56, 108) :: .inr (108, .inl 0) :: .inl (69, 53, 107) :: .inl (107, 36, Zbnar 32) :: .inl (107, 35, Zbnar 101) :: .inl (107, 34, Zbnar 116) :: .inl (107, 33, Zbnar 97) :: .inl (107, 32, Zbnar 108) :: .inl (107, 31, Zbnar 32) :: .inl (107, 30, Zbnar 121) :: .inl (107, 29, Zbnar 97) :: .inl (107, 28, Zbnar 108) :: .inl (107, 27, Zbnar 101) :: .inl (107, 26, Zbnar 114) :: .inl (107, 25, Zbnar 32) :: .inl (107, 24, Zbnar 114) :: .inl (107, 23, Zbnar 105) :: .inl (107, 22, Zbnar 97) :: .inl (107, 21, Zbnar 112) :: .inl (107, 20, Zbnar 32) :: .inl (107, 19, Zbnar 121) :: .inl (107, 18, Zbnar 97) :: .inl (107, 17, Zbnar 119) :: .inl (107, 16, Zbnar 32) :: .inl (107, 15, Zbnar 116) :: .inl (107, 14, Zbnar 115) :: .inl (107, 13, Zbnar 97) :: .inl (107, 12, Zbnar 101) :: .inl (107, 11, Zbnar 108) :: .inl (107, 10, Zbnar 32) :: .inl (107, 9, Zbnar 101) :: .inl (107, 8, Zbnar 116) :: .inl (107, 7, Zbnar 97) :: .inl (107, 6, Zbnar 114) :: .inl (107, 5, Zbnar 32) :: .inl (107, 4, Zbnar 109) :: .inl (107, 3, Zbnar 111) :: .inl (107, 2, Zbnar 114) :: .inl (107, 1, Zbnar 102) :: .inl (107, 0, Zbnar 32) :: .inr (107, .inl 0) :: .inl (69, 52, 106) :: .inr (106, .inl 0) :: .inl (69, 51, 105) :: .inr (105, .inl 0) :: .inl (69, 50, 104) :: .inr (104, .inl 0) :: .inl (69, 49, 103) :: .inr (103, .inl 0) :: .inl (69, 47, 102) :: .inr (102, .inl 0) :: .inl (69, 46, 101) :: .inr (101, .inl 0) :: .inl (69, 45, 100) :: .inr (100, .inl 0) :: .inl (69, 44, 99) :: .inr (99, .inl 0) :: .inl (69, 39, 98) :: .inr (98, .inl 0) :: .inl (69, 32, 97) :: .inr (97, .inl 0) :: .inl (69, 31, 96) :: .inr (96, .inl 0) :: .inl (69, 30, 95) :: .inr (95, .inl 0) :: .inl (69, 29, 94) :: .inr (94, .inl 0) :: .inl (69, 27, 93) :: .inr (93, .inl 0) :: .inl (69, 26, 92) :: .inr (92, .inl 0) :: .inl (69, 25, 91) :: .inr (91, .inl 0) :: .inl (69, 24, 90) :: .inr (90, .inl 0) :: .inl (69, 23, 89) :: .inr (89, .inl 0) :: .inl (69, 22, 88) :: .inr (88, .inl 0) :: .inl (69, 21, 87) :: .inr (87, .inl 0) :: .inl (69, 20, 86) :: .inr (86, .inl 0) :: .inl (69, 19, 85) :: .inr (85, .inl 0) :: .inl (69, 18, 84) :: .inr (84, .inl 0) :: .inl (69, 17, 83) :: .inr (83, .inl 0) :: .inl (69, 16, 82) :: .inr (82, .inl 0) :: .inl (69, 15, 81) :: .inr (81, .inl 0) :: .inl (69, 14, 80) :: .inr (80, .inl 0) :: .inl (69, 13, 79) :: .inr (79, .inl 0) :: .inl (69, 11, 30) :: .inl (69, 10, 78) :: .inr (78, .inl 0) :: .inl (69, 9, 77) :: .inr (77, .inl 0) :: .inl (69, 8, 76) :: .inr (76, .inl 0) :: .inl (69, 7, 75) :: .inr (75, .inl 0) :: .inl (69, 6, 74) :: .inr (74, .inl 0) :: .inl (69, 5, 73) :: .inr (73, .inl 0) :: .inl (69, 3, 72) :: .inr (72, .inl 0) :: .inl (69, 1, 71) :: .inr (71, .inl 0) :: .inl (69, 0, 70) :: .inr (70, .inl 0) :: .inr (69, .inr 12) :: Jd
theorem d_126 {τ : Mem} {Q : Pst} (k : Q none (ap Jd τ) 69) : EV 19 85 126 [(21, 0)] [(12, 64), (21, 0)] (ap J126 τ) 69 Q := b_85_126 (by decide) k
theorem d_115 {τ : Mem} {Q : Pst} (k : Q none (ap Jd τ) 69) : EV 19 85 115 [(21, 0)] [(12, 59), (21, 0)] (ap J115 τ) 64 Q := by
  refine b_85_115 (d := 18) (h0 := by decide) (h1 := by decide +kernel) (h2 := by decide +kernel) (k := ?_)
  exact k_14_64 (l := .inr (64, .inr 2) :: .inl (0, 9, 59) :: J115) (d_126 k)
theorem d_104 {τ : Mem} {Q : Pst} (k : Q none (ap Jd τ) 69) : EV 19 85 104 [(21, 0)] [(14, 52), (21, 0)] (ap J104 τ) 59 Q := by
  refine b_85_104 (d := 18) (h0 := by decide) (h1 := by decide +kernel) (h2 := by decide +kernel) (k := ?_)
  exact k_14_59 (l := .inr (59, .inr 2) :: .inl (0, 8, 52) :: J104) (d_115 k)
theorem d_93 {τ : Mem} {Q : Pst} (k : Q none (ap Jd τ) 69) : EV 19 85 93 [(21, 0)] [(18, 50), (21, 0)] (ap J93 τ) 52 Q := by
  refine b_85_93 (d := 18) (h0 := by decide) (h1 := by decide +kernel) (h2 := by decide +kernel) (k := ?_)
  exact k_23 (l := .inr (52, .inr 4) :: .inl (0, 7, 50) :: J93) (d_104 k)
theorem d_82 {τ : Mem} {Q : Pst} (k : Q none (ap Jd τ) 69) : EV 19 85 82 [(21, 0)] [(17, 24), (21, 0)] (ap J82 τ) 50 Q := by
  refine b_85_82 (d := 18) (h0 := by decide) (h1 := by decide +kernel) (h2 := by decide +kernel) (k := ?_)
  exact k_49 (l := .inr (50, .inr 8) :: .inl (0, 6, 24) :: J82) (d_93 k)
theorem p_0 {τ : Mem} {Q : Pst} (k : EV 18 39 19 [(17, 24), (10, 21), (0, 1)] [] (ap Jp1 τ) 31 Q) : EV 18 39 19 [(17, 24), (10, 21), (0, 0)] [] (ap Jp0 τ) 26 Q := by
  refine b_39_19 (ht := fun h => absurd h (by decide)) (hf := fun _ => ?_)
  refine b_39_24 (d := 17) (h0 := by decide) (h1 := by decide +kernel) (h2 := by decide +kernel) (k := ?_)
  rw [show ap Jp0 τ 24 1 = 25 from rdL_ok (by decide +kernel)]
  refine k_68_26 (l := .inr (26, .inr 9) :: Jp0) ?_
  show EV 18 39 36 [(17, 24), (10, 21), (0, 0)] [(19, 26), (0, 0), (54, 25)] (ap Jq0 τ) 31 Q
  refine b_39_36 (by decide) (by decide) (by decide +kernel) ?_
  rw [show Zadd 0 1 = 1 from by decide +kernel]
  exact k
theorem p_1 {τ : Mem} {Q : Pst} (k : EV 18 39 19 [(17, 24), (10, 21), (0, 2)] [] (ap Jp2 τ) 36 Q) : EV 18 39 19 [(17, 24), (10, 21), (0, 1)] [] (ap Jp1 τ) 31 Q := by
  refine b_39_19 (ht := fun h => absurd h (by decide)) (hf := fun _ => ?_)
  refine b_39_24 (d := 17) (h0 := by decide) (h1 := by decide +kernel) (h2 := by decide +kernel) (k := ?_)
  rw [show ap Jp1 τ 24 1 = 25 from rdL_ok (by decide +kernel)]
  refine k_68_31 (l := .inr (31, .inr 9) :: Jp1) ?_
  show EV 18 39 36 [(17, 24), (10, 21), (0, 1)] [(19, 31), (0, 1), (54, 25)] (ap Jq1 τ) 36 Q
  refine b_39_36 (by decide) (by decide) (by decide +kernel) ?_
  rw [show Zadd 1 1 = 2 from by decide +kernel]
  exact k
theorem p_2 {τ : Mem} {Q : Pst} (k : EV 18 39 19 [(17, 24), (10, 21), (0, 3)] [] (ap Jp3 τ) 41 Q) : EV 18 39 19 [(17, 24), (10, 21), (0, 2)] [] (ap Jp2 τ) 36 Q := by
  refine b_39_19 (ht := fun h => absurd h (by decide)) (hf := fun _ => ?_)
  refine b_39_24 (d := 17) (h0 := by decide) (h1 := by decide +kernel) (h2 := by decide +kernel) (k := ?_)
  rw [show ap Jp2 τ 24 1 = 25 from rdL_ok (by decide +kernel)]
  refine k_68_36 (l := .inr (36, .inr 9) :: Jp2) ?_
  show EV 18 39 36 [(17, 24), (10, 21), (0, 2)] [(19, 36), (0, 2), (54, 25)] (ap Jq2 τ) 41 Q
  refine b_39_36 (by decide) (by decide) (by decide +kernel) ?_
  rw [show Zadd 2 1 = 3 from by decide +kernel]
  exact k
theorem p_3 {τ : Mem} {Q : Pst} (k : EV 18 39 19 [(17, 24), (10, 21), (0, 4)] [] (ap Jp4 τ) 46 Q) : EV 18 39 19 [(17, 24), (10, 21), (0, 3)] [] (ap Jp3 τ) 41 Q := by
  refine b_39_19 (ht := fun h => absurd h (by decide)) (hf := fun _ => ?_)
  refine b_39_24 (d := 17) (h0 := by decide) (h1 := by decide +kernel) (h2 := by decide +kernel) (k := ?_)
  rw [show ap Jp3 τ 24 1 = 25 from rdL_ok (by decide +kernel)]
  refine k_68_41 (l := .inr (41, .inr 9) :: Jp3) ?_
  show EV 18 39 36 [(17, 24), (10, 21), (0, 3)] [(19, 41), (0, 3), (54, 25)] (ap Jq3 τ) 46 Q
  refine b_39_36 (by decide) (by decide) (by decide +kernel) ?_
  rw [show Zadd 3 1 = 4 from by decide +kernel]
  exact k
theorem k_39 {τ : Mem} {Q : Pst} (k : Q none (ap J82 τ) 50) : EVM 18 39 [(17, 24), (10, 21)] (ap (.inr (24, .inr 7) :: .inl (0, 5, 21) :: J67) τ) 25 Q := by
  show EV 18 39 0 [(17, 24), (10, 21), (9, 0)] [] _ 25 Q
  refine b_39_0 (n := 25) (h0 := by decide +kernel) (h1 := by decide +kernel) (k := ?_)
  refine p_0 (p_1 (p_2 (p_3 ?_)))
  refine b_39_19 (ht := fun _ => ?_) (hf := fun h => absurd h (by decide))
  exact b_39_43 (n := 46) (h0 := by decide +kernel) (h1 := by decide +kernel) (h2 := by decide +kernel) (h3 := by decide +kernel) (h4 := by decide +kernel) (k := k)
theorem d_67 {τ : Mem} {Q : Pst} (k : Q none (ap Jd τ) 69) : EV 19 85 67 [(21, 0)] [(10, 21), (21, 0)] (ap J67 τ) 24 Q := by
  refine b_85_67 (d := 18) (h0 := by decide) (h1 := by decide +kernel) (h2 := by decide) (h3 := by decide +kernel) (k := ?_)
  have e : mkM (wrM (ap J67 τ) 0 5 21) ((24 : Nat) : Int) (dfl 7 ftF) 0 5 = 21 := by rw [mk_ne (by decide)]; exact wr_same
  rw [e]
  exact k_39 (d_82 k)
theorem d_56 {τ : Mem} {Q : Pst} (k : Q none (ap Jd τ) 69) : EV 19 85 56 [(21, 0)] [(19, 16), (21, 0)] (ap J56 τ) 21 Q := by
  refine b_85_56 (d := 18) (h0 := by decide) (h1 := by decide +kernel) (h2 := by decide +kernel) (k := ?_)
  exact k_0 (l := .inr (21, .inr 0) :: .inl (0, 4, 16) :: J56) (d_67 k)
theorem d_45 {τ : Mem} {Q : Pst} (k : Q none (ap Jd τ) 69) : EV 19 85 45 [(21, 0)] [(11, 14), (21, 0)] (ap J45 τ) 16 Q := by
  refine b_85_45 (d := 18) (h0 := by decide) (h1 := by decide +kernel) (h2 := by decide +kernel) (k := ?_)
  exact k_68_16 (l := .inr (16, .inr 9) :: .inl (0, 3, 14) :: J45) (d_56 k)
theorem d_34 {τ : Mem} {Q : Pst} (k : Q none (ap Jd τ) 69) : EV 19 85 34 [(21, 0)] [(15, 6), (21, 0)] (ap J34 τ) 14 Q := by
  refine b_85_34 (d := 18) (h0 := by decide) (h1 := by decide +kernel) (h2 := by decide +kernel) (k := ?_)
  exact k_8 (l := .inr (14, .inr 1) :: .inl (0, 2, 6) :: J34) (d_45 k)
theorem d_23 {τ : Mem} {Q : Pst} (k : Q none (ap Jd τ) 69) : EV 19 85 23 [(21, 0)] [(16, 3), (21, 0)] (ap J23 τ) 6 Q := by
  refine b_85_23 (d := 18) (h0 := by decide) (h1 := by decide +kernel) (h2 := by decide +kernel) (k := ?_)
  exact k_29 (l := .inr (6, .inr 5) :: .inl (0, 1, 3) :: J23) (d_34 k)
theorem d_12 {τ : Mem} {Q : Pst} (k : Q none (ap Jd τ) 69) : EV 19 85 12 [(21, 0)] [(20, 1), (21, 0)] (ap J12 τ) 3 Q := by
  refine b_85_12 (d := 18) (h0 := by decide) (h1 := by decide +kernel) (h2 := by decide +kernel) (k := ?_)
  exact k_33 (l := .inr (3, .inr 6) :: .inl (0, 0, 1) :: J12) (d_23 k)
/-- the object: what lies before the list is a memory with the ways -/
theorem k_85 {σ : Mem} {Q : Pst} (k : ∀ τ, (∀ j, τ (-2) j = σ (-2) j) → τ 1 0 = 2 → τ 1 1 = 30 → (∀ j, τ 2 j = if 0 ≤ j ∧ j < 36 ∧ ¬ j / 6 = j % 6 then 60 else 0) → Q none (ap Jd τ) 69) : EVM 19 85 [(21, 0)] (mkM σ 0 (dfl 11 ftF)) 1 Q := by
  show EV 19 85 0 [(21, 0)] [] _ 1 Q
  refine b_85_0 (d := 18) (h0 := by decide) (h1 := by decide +kernel) (h2 := by decide +kernel) (k := ?_)
  show EV 18 81 0 [(20, 1), (9, 0)] [] (mkM (mkM σ 0 (dfl 11 ftF)) 1 (dfl 10 ftF)) 2 (fun r σ1 n1 => EV 19 85 12 [(21, 0)] (r.toList ++ [(20, 1), (21, 0)]) σ1 n1 Q)
  refine b_81_0 (n := 2) (h0 := by decide) (h1 := by decide +kernel) (k := ?_)
  generalize hσ : wrM (mkM (mkM (mkM σ 0 (dfl 11 ftF)) 1 (dfl 10 ftF)) ((2 : Nat) : Int) (fun _ => 0)) 1 0 ((2 : Nat) : Int) = σ0
  have e0 : σ0 1 0 = 2 := by rw [← hσ]; exact wr_same
  have e2 : ∀ j, σ0 2 j = 0 := fun j => by
    rw [← hσ, wr_ne (by decide)]; exact mk_eq
  have es : ∀ j, σ0 (-2) j = σ (-2) j := fun j => by
    rw [← hσ, wr_ne (by decide), mk_ne (by decide), mk_ne (by decide), mk_ne (by decide)]
  refine l_81 e0 37 0 σ0 (by decide) (by decide) (by decide) ⟨fun _ _ _ => rfl, fun j => ?_⟩ (fun σ' h' => ?_)
  · rw [e2, if_neg (fun q => by omega)]
  · show EV 19 85 12 [(21, 0)] [(20, 1), (21, 0)] (ap J12 (wrM σ' 1 1 30)) 3 Q
    refine d_12 (k _ (fun j => ?_) ?_ wr_same (fun j => ?_))
    · rw [wr_ne (by decide), h'.1 _ _ (by decide)]; exact es j
    · rw [wr_nej (by decide), h'.1 _ _ (by decide)]; exact e0
    · rw [wr_ne (by decide)]; exact h'.2 j
set_option maxRecDepth 20000 in
theorem k_121 {τ : Mem} {Q : Pst} (k : ∀ σ', RWy (ap Jr τ) σ' 70 36 → Q none σ' 114) : EVM 19 121 [(22, 69)] (ap (.inr (69, .inr 12) :: Jd) τ) 70 Q := by
  show EV 19 121 0 [(22, 69), (9, 0), (9, 0)] [] _ 70 Q
  refine b_121_0 (n := 70) (h0 := by decide +kernel) (h1 := by decide +kernel) (h2 := by decide +kernel) (h3 := by decide +kernel) (h4 := by decide +kernel) (h5 := by decide +kernel) (h6 := by decide +kernel) (h7 := by decide +kernel) (h8 := by decide +kernel) (h9 := by decide +kernel) (h10 := by decide +kernel) (h11 := by decide +kernel) (h12 := by decide +kernel) (h13 := by decide +kernel) (h14 := by decide +kernel) (h15 := by decide +kernel) (h16 := by decide +kernel) (h17 := by decide +kernel) (h18 := by decide +kernel) (h19 := by decide +kernel) (h20 := by decide +kernel) (h21 := by decide +kernel) (h22 := by decide +kernel) (h23 := by decide +kernel) (h24 := by decide +kernel) (h25 := by decide +kernel) (h26 := by decide +kernel) (h27 := by decide +kernel) (h28 := by decide +kernel) (h29 := by decide +kernel) (h30 := by decide +kernel) (h31 := by decide +kernel) (h32 := by decide +kernel) (h33 := by decide +kernel) (h34 := by decide +kernel) (h35 := by decide +kernel) (h36 := by decide +kernel) (h37 := by decide +kernel) (h38 := by decide +kernel) (h39 := by decide +kernel) (h40 := by decide +kernel) (h41 := by decide +kernel) (h42 := by decide +kernel) (h43 := by decide +kernel) (h44 := by decide +kernel) (h45 := by decide +kernel) (h46 := by decide +kernel) (h47 := by decide +kernel) (h48 := by decide +kernel) (h49 := by decide +kernel) (h50 := by decide +kernel) (h51 := by decide +kernel) (h52 := by decide +kernel) (h53 := by decide +kernel) (h54 := by decide +kernel) (h55 := by decide +kernel) (h56 := by decide +kernel) (h57 := by decide +kernel) (h58 := by decide +kernel) (h59 := by decide +kernel) (h60 := by decide +kernel) (h61 := by decide +kernel) (h62 := by decide +kernel) (h63 := by decide +kernel) (h64 := by decide +kernel) (h65 := by decide +kernel) (h66 := by decide +kernel) (h67 := by decide +kernel) (h68 := by decide +kernel) (h69 := by decide +kernel) (h70 := by decide +kernel) (h71 := by decide +kernel) (h72 := by decide +kernel) (h73 := by decide +kernel) (h74 := by decide +kernel) (h75 := by decide +kernel) (h76 := by decide +kernel) (h77 := by decide +kernel) (h78 := by decide +kernel) (h79 := by decide +kernel) (h80 := by decide +kernel) (h81 := by decide +kernel) (h82 := by decide +kernel) (k := ?_)
  exact l_121o (σ0 := ap Jr τ) (rdL_ok (by decide +kernel)) 7 0 (ap Jr τ) (9, 0) (by decide) (by decide) (by decide) ⟨fun _ _ _ => rfl, fun j => by rw [if_neg (fun q => by omega)]; exact zr_ok (by decide +kernel) j⟩ k
