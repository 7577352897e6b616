/-! the search of the best plan: the class -/
def sbN (p : Int) (at_ : Nat) : Nat := if p = -1 then 0 else 2 ^ (4 * p.toNat + at_)
theorem s_setBit {d : Nat} {n : Nat} {Q : Pst} {σ : Mem} {p : Int} {a : Nat} (hp : -1 ≤ p ∧ p ≤ 4) (ha : a < 4) (k : Q (some (0, ((sbN p a : Nat) : Int))) σ n) : EVM d 45 [(0, p), (0, (a : Int))] σ n Q := by
  show EV d 45 0 [(0, p), (0, (a : Int))] [] σ n Q
  refine r_45_0 (ht := fun c => ?_) (hf := fun c => ?_)
  · refine r_45_9 (k := ?_)
    have z : Zadd (Zmul p 4) (a : Int) = ((4 * p.toNat + a : Nat) : Int) := by
      simp (disch := omega) only [Zadd_eq, Zmul_eq]; omega
    rw [z, Zshl_1 (by omega)]
    unfold sbN at k
    rw [if_neg c] at k
    exact k
  · refine r_45_5 (k := ?_)
    unfold sbN at k
    rw [if_pos c] at k
    exact k
theorem sbN_lt {p : Int} {a : Nat} (hp : -1 ≤ p ∧ p ≤ 4) (ha : a < 4) : sbN p a < 2 ^ 20 := by
  unfold sbN
  split
  · decide
  · exact Nat.pow_lt_pow_right (by decide) (by omega)
theorem sbN_tb {p : Int} {a q s : Nat} (hp : -1 ≤ p ∧ p ≤ 4) (ha : a < 4) (hs : s < 4) : (sbN p a).testBit (4 * q + s) = decide (p = (q : Int) ∧ a = s) := by
  unfold sbN
  split
  · rw [Nat.zero_testBit, decide_eq_false (by omega)]
  · rw [two_tb]
    exact decide_eq_decide.mpr (by omega)
/-- the planner's lists, read -/
theorem s_fst {d : Nat} {n : Nat} {Q : Pst} {σ : Mem} {TM : Nat → List Tm} {m s : Nat} {x : Int} (hG : GR σ) (hT : TMs σ TM m) (hs : s < m) (hm : m ≤ 4) (hl : (TM s).length ≤ 20) (hx : 0 ≤ x) (k : Q (some (0, ((TM s).getD x.toNat (-1, -1, -1)).1)) σ n) : EVM (d + 1) 70 [(19, 26 + 5 * (s : Int)), (0, x)] σ n Q := by
  refine s_first (TKK (by omega)) hG (fun v ev => ?_)
  obtain ⟨t1, t2⟩ := hT s hs
  have e : v = ((TM s).getD x.toNat (-1, -1, -1)).1 := by
    by_cases h : x < ((TM s).length : Int)
    · rw [if_pos (by omega)] at ev
      have hx2 := List.getElem?_eq_getElem (show x.toNat < (TM s).length by omega)
      have q := (t2 x.toNat _ hx2).1
      rw [show (0 : Int) + ((x.toNat : Nat) : Int) = x by omega] at q
      rw [ev, q, List.getD_eq_getElem?_getD, hx2]; rfl
    · rw [if_neg (by omega)] at ev
      rw [ev, List.getD_eq_getElem?_getD, List.getElem?_eq_none (by omega)]; rfl
  rw [e]; exact k
theorem s_snd {d : Nat} {n : Nat} {Q : Pst} {σ : Mem} {TM : Nat → List Tm} {m s : Nat} {x : Int} (hG : GR σ) (hT : TMs σ TM m) (hs : s < m) (hm : m ≤ 4) (hl : (TM s).length ≤ 20) (hx : 0 ≤ x) (k : Q (some (0, ((TM s).getD x.toNat (-1, -1, -1)).2.1)) σ n) : EVM (d + 1) 71 [(19, 26 + 5 * (s : Int)), (0, x)] σ n Q := by
  refine s_second (TKK (by omega)) hG (fun v ev => ?_)
  obtain ⟨t1, t2⟩ := hT s hs
  have e : v = ((TM s).getD x.toNat (-1, -1, -1)).2.1 := by
    by_cases h : x < ((TM s).length : Int)
    · rw [if_pos (by omega)] at ev
      have hx2 := List.getElem?_eq_getElem (show x.toNat < (TM s).length by omega)
      have q := (t2 x.toNat _ hx2).2.1
      rw [show (0 : Int) + ((x.toNat : Nat) : Int) = x by omega, show (26 : Int) + 5 * (s : Int) + 1 + 1 = 26 + 5 * (s : Int) + 2 by omega] at q
      rw [ev, q, List.getD_eq_getElem?_getD, hx2]; rfl
    · rw [if_neg (by omega)] at ev
      rw [ev, List.getD_eq_getElem?_getD, List.getElem?_eq_none (by omega)]; rfl
  rw [e]; exact k
/-- persons of teams -/
def TMv (TM : Nat → List Tm) : Prop := ∀ s x, (-1 ≤ ((TM s).getD x (-1, -1, -1)).1 ∧ ((TM s).getD x (-1, -1, -1)).1 ≤ 4) ∧ (-1 ≤ ((TM s).getD x (-1, -1, -1)).2.1 ∧ ((TM s).getD x (-1, -1, -1)).2.1 ≤ 4)
theorem s_setsOf {d : Nat} {n : Nat} {Q : Pst} {σ : Mem} {TM : Nat → List Tm} {m s : Nat} {x : Int} (hG : GR σ) (hT : TMs σ TM m) (hv : TMv TM) (hs : s < m) (hm : m ≤ 4) (hl : (TM s).length ≤ 20) (hx : 0 ≤ x) (k : Q (some (0, ((sbN ((TM s).getD x.toNat (-1, -1, -1)).1 s ||| sbN ((TM s).getD x.toNat (-1, -1, -1)).2.1 s : Nat) : Int))) σ n) : EVM (d + 2) 44 [(17, 24), (0, (s : Int)), (0, x)] σ n Q := by
  show EV (d + 2) 44 0 [(17, 24), (0, (s : Int)), (0, x)] [] σ n Q
  have e25 := gr25 hG (j := s) (by omega)
  have v1 := hv s x.toNat
  refine r_44_0 (hG := hG) (h0 := by omega) (h1 := by omega) (k := ?_)
  rw [e25]
  refine s_fst hG hT hs hm hl hx ?_
  dsimp only [Option.toList_some, List.cons_append, List.nil_append]
  refine r_44_10 (k := ?_)
  refine s_setBit v1.1 (by omega) ?_
  dsimp only [Option.toList_some, List.cons_append, List.nil_append]
  refine r_44_14 (hG := hG) (h0 := by omega) (h1 := by omega) (k := ?_)
  rw [e25]
  refine s_snd hG hT hs hm hl hx ?_
  dsimp only [Option.toList_some, List.cons_append, List.nil_append]
  refine r_44_24 (k := ?_)
  refine s_setBit v1.2 (by omega) ?_
  dsimp only [Option.toList_some, List.cons_append, List.nil_append]
  refine r_44_28 (k := ?_)
  have b1 := sbN_lt v1.1 (show s < 4 by omega)
  have b2 := sbN_lt v1.2 (show s < 4 by omega)
  rw [Zor_nat (by omega) (by omega)]
  exact k
theorem s_changesAt {d : Nat} {n : Nat} {Q : Pst} {σ : Mem} {TM : Nat → List Tm} {L rv : List Int} {s : Nat} {x : Int} (hG : GR σ) (hS : SH σ L rv) (hL : ∀ h ∈ L, 0 ≤ h) (hT : TMs σ TM L.length) (hs : s < L.length) (hl : (TM s).length ≤ 20) (hx : 0 ≤ x) (k : Q (some (0, lev (σ (114 + L.getD s 0) 9) ((TM s).getD x.toNat (-1, -1, -1)) + lev (σ (114 + L.getD s 0) 10) ((TM s).getD x.toNat (-1, -1, -1)))) σ n) : EVM (d + 2) 46 [(17, 24), (0, (s : Int)), (0, x)] σ n Q := by
  show EV (d + 2) 46 0 [(17, 24), (0, (s : Int)), (0, x), (9, 0)] [] σ n Q
  have s1 := hS.1
  have s2 := hS.2.1
  have e25 := gr25 hG (j := s) (by omega)
  have hx0 := List.getElem?_eq_getElem hs
  have hx1 := hS.2.2.1 s _ hx0
  have hx2 := hL _ (List.getElem_mem hs)
  have ed : L.getD s 0 = L[s] := by rw [List.getD_eq_getElem?_getD, hx0]; rfl
  rw [ed] at k
  refine r_46_0 (hG := hG) (k := ?_)
  refine s_shget hG (fun c2 => ?_) (fun c2 => by exfalso; omega)
  dsimp only [Option.toList_some, List.cons_append, List.nil_append]
  rw [hx1]
  refine r_46_8 (ht := fun _ => ?_) (hf := fun c => by exfalso; omega)
  refine r_46_17 (hG := hG) (h0 := by omega) (h1 := by omega) (k := ?_)
  rw [e25]
  refine s_fst hG hT hs s2 hl hx ?_
  dsimp only [Option.toList_some, List.cons_append, List.nil_append]
  refine r_46_28 (hG := hG) (h0 := by omega) (h1 := by omega) (k := ?_)
  rw [e25]
  refine s_snd hG hT hs s2 hl hx ?_
  dsimp only [Option.toList_some, List.cons_append, List.nil_append]
  refine r_46_38 (h0 := by omega) (k := ?_)
  refine r_21_0 (h0 := by omega) (k := ?_)
  refine s_leaves ?_
  dsimp only [Option.toList_some, List.cons_append, List.nil_append]
  refine r_21_9 (h0 := by omega) (k := ?_)
  refine s_leaves ?_
  dsimp only [Option.toList_some, List.cons_append, List.nil_append]
  refine r_21_18 (k := ?_)
  dsimp only [Option.toList_some, List.cons_append, List.nil_append]
  refine r_46_41 (k := ?_)
  have l1 := @lev_b (σ (114 + L[s]) 9) ((TM s).getD x.toNat (-1, -1, -1))
  have l2 := @lev_b (σ (114 + L[s]) 10) ((TM s).getD x.toNat (-1, -1, -1))
  show Q (some (0, Zadd (lev (σ (114 + L[s]) 9) ((TM s).getD x.toNat (-1, -1, -1))) (lev (σ (114 + L[s]) 10) ((TM s).getD x.toNat (-1, -1, -1))))) σ n
  rw [Zadd_eq (by omega) (by omega)]
  exact k
set_option maxHeartbeats 2000000 in
theorem s_isBetter {d : Nat} {σ : Mem} {n : Nat} {Q : Pst} {l g t : Int} {keep : Bool} {B : Bst} (hk : ¬ σ 24 6 = 0 ↔ keep = true) (h9 : σ 24 9 = B.1) (h10 : σ 24 10 = B.2.1) (h11 : σ 24 11 = B.2.2.1) (ht : btr keep l g t B = true → Q (some (0, 1)) σ n) (hf : ¬ (btr keep l g t B = true) → Q (some (0, 0)) σ n) : EVM d 48 [(17, 24), (0, l), (0, g), (0, t)] σ n Q := by
  show EV d 48 0 [(17, 24), (0, l), (0, g), (0, t)] [] σ n Q
  refine r_48_0  (ht := fun c => ?_) (hf := fun c => ?_)
  · skip
    refine r_48_22  (ht := fun c => ?_) (hf := fun c => ?_)
    · skip
      refine r_48_51  (ht := fun c => ?_) (hf := fun c => ?_)
      · skip
        refine r_48_63  (k := ?_)
        have hk2 : σ 24 6 = 0 ↔ keep = false := ⟨fun z => by cases keep with | false => rfl | true => exact absurd z (hk.mpr rfl), fun z => Decidable.byContradiction (fun z2 => by have := hk.mp z2; rw [z] at this; cases this)⟩
        first
        | exact ht (decide_eq_true (Or.inl (by omega)))
        | exact ht (decide_eq_true (Or.inr ⟨by omega, Or.inl ⟨hk.mp (by assumption), by omega⟩⟩))
        | exact ht (decide_eq_true (Or.inr ⟨by omega, Or.inr ⟨Or.inl (hk2.mp (by assumption)), by omega⟩⟩))
        | exact ht (decide_eq_true (Or.inr ⟨by omega, Or.inr ⟨Or.inr (by omega), by omega⟩⟩))
        | (refine hf (fun z => ?_)
           have z2 := of_decide_eq_true z
           rcases z2 with z2 | ⟨z3, ⟨z4, z5⟩ | ⟨z5 | z5, z6⟩⟩
           · omega
           · first | omega | (have := hk.mpr z4; omega)
           · first | omega | (have := hk2.mpr z5; omega)
           · omega)
      · skip
        refine r_48_59  (k := ?_)
        have hk2 : σ 24 6 = 0 ↔ keep = false := ⟨fun z => by cases keep with | false => rfl | true => exact absurd z (hk.mpr rfl), fun z => Decidable.byContradiction (fun z2 => by have := hk.mp z2; rw [z] at this; cases this)⟩
        first
        | exact ht (decide_eq_true (Or.inl (by omega)))
        | exact ht (decide_eq_true (Or.inr ⟨by omega, Or.inl ⟨hk.mp (by assumption), by omega⟩⟩))
        | exact ht (decide_eq_true (Or.inr ⟨by omega, Or.inr ⟨Or.inl (hk2.mp (by assumption)), by omega⟩⟩))
        | exact ht (decide_eq_true (Or.inr ⟨by omega, Or.inr ⟨Or.inr (by omega), by omega⟩⟩))
        | (refine hf (fun z => ?_)
           have z2 := of_decide_eq_true z
           rcases z2 with z2 | ⟨z3, ⟨z4, z5⟩ | ⟨z5 | z5, z6⟩⟩
           · omega
           · first | omega | (have := hk.mpr z4; omega)
           · first | omega | (have := hk2.mpr z5; omega)
           · omega)
    · skip
      refine r_48_29  (ht := fun c => ?_) (hf := fun c => ?_)
      · skip
        refine r_48_51  (ht := fun c => ?_) (hf := fun c => ?_)
        · skip
          refine r_48_63  (k := ?_)
          have hk2 : σ 24 6 = 0 ↔ keep = false := ⟨fun z => by cases keep with | false => rfl | true => exact absurd z (hk.mpr rfl), fun z => Decidable.byContradiction (fun z2 => by have := hk.mp z2; rw [z] at this; cases this)⟩
          first
          | exact ht (decide_eq_true (Or.inl (by omega)))
          | exact ht (decide_eq_true (Or.inr ⟨by omega, Or.inl ⟨hk.mp (by assumption), by omega⟩⟩))
          | exact ht (decide_eq_true (Or.inr ⟨by omega, Or.inr ⟨Or.inl (hk2.mp (by assumption)), by omega⟩⟩))
          | exact ht (decide_eq_true (Or.inr ⟨by omega, Or.inr ⟨Or.inr (by omega), by omega⟩⟩))
          | (refine hf (fun z => ?_)
             have z2 := of_decide_eq_true z
             rcases z2 with z2 | ⟨z3, ⟨z4, z5⟩ | ⟨z5 | z5, z6⟩⟩
             · omega
             · first | omega | (have := hk.mpr z4; omega)
             · first | omega | (have := hk2.mpr z5; omega)
             · omega)
        · skip
          refine r_48_59  (k := ?_)
          have hk2 : σ 24 6 = 0 ↔ keep = false := ⟨fun z => by cases keep with | false => rfl | true => exact absurd z (hk.mpr rfl), fun z => Decidable.byContradiction (fun z2 => by have := hk.mp z2; rw [z] at this; cases this)⟩
          first
          | exact ht (decide_eq_true (Or.inl (by omega)))
          | exact ht (decide_eq_true (Or.inr ⟨by omega, Or.inl ⟨hk.mp (by assumption), by omega⟩⟩))
          | exact ht (decide_eq_true (Or.inr ⟨by omega, Or.inr ⟨Or.inl (hk2.mp (by assumption)), by omega⟩⟩))
          | exact ht (decide_eq_true (Or.inr ⟨by omega, Or.inr ⟨Or.inr (by omega), by omega⟩⟩))
          | (refine hf (fun z => ?_)
             have z2 := of_decide_eq_true z
             rcases z2 with z2 | ⟨z3, ⟨z4, z5⟩ | ⟨z5 | z5, z6⟩⟩
             · omega
             · first | omega | (have := hk.mpr z4; omega)
             · first | omega | (have := hk2.mpr z5; omega)
             · omega)
      · skip
        refine r_48_37  (ht := fun c => ?_) (hf := fun c => ?_)
        · skip
          refine r_48_49  (k := ?_)
          have hk2 : σ 24 6 = 0 ↔ keep = false := ⟨fun z => by cases keep with | false => rfl | true => exact absurd z (hk.mpr rfl), fun z => Decidable.byContradiction (fun z2 => by have := hk.mp z2; rw [z] at this; cases this)⟩
          first
          | exact ht (decide_eq_true (Or.inl (by omega)))
          | exact ht (decide_eq_true (Or.inr ⟨by omega, Or.inl ⟨hk.mp (by assumption), by omega⟩⟩))
          | exact ht (decide_eq_true (Or.inr ⟨by omega, Or.inr ⟨Or.inl (hk2.mp (by assumption)), by omega⟩⟩))
          | exact ht (decide_eq_true (Or.inr ⟨by omega, Or.inr ⟨Or.inr (by omega), by omega⟩⟩))
          | (refine hf (fun z => ?_)
             have z2 := of_decide_eq_true z
             rcases z2 with z2 | ⟨z3, ⟨z4, z5⟩ | ⟨z5 | z5, z6⟩⟩
             · omega
             · first | omega | (have := hk.mpr z4; omega)
             · first | omega | (have := hk2.mpr z5; omega)
             · omega)
        · skip
          refine r_48_45  (k := ?_)
          have hk2 : σ 24 6 = 0 ↔ keep = false := ⟨fun z => by cases keep with | false => rfl | true => exact absurd z (hk.mpr rfl), fun z => Decidable.byContradiction (fun z2 => by have := hk.mp z2; rw [z] at this; cases this)⟩
          first
          | exact ht (decide_eq_true (Or.inl (by omega)))
          | exact ht (decide_eq_true (Or.inr ⟨by omega, Or.inl ⟨hk.mp (by assumption), by omega⟩⟩))
          | exact ht (decide_eq_true (Or.inr ⟨by omega, Or.inr ⟨Or.inl (hk2.mp (by assumption)), by omega⟩⟩))
          | exact ht (decide_eq_true (Or.inr ⟨by omega, Or.inr ⟨Or.inr (by omega), by omega⟩⟩))
          | (refine hf (fun z => ?_)
             have z2 := of_decide_eq_true z
             rcases z2 with z2 | ⟨z3, ⟨z4, z5⟩ | ⟨z5 | z5, z6⟩⟩
             · omega
             · first | omega | (have := hk.mpr z4; omega)
             · first | omega | (have := hk2.mpr z5; omega)
             · omega)
  · skip
    refine r_48_8  (ht := fun c => ?_) (hf := fun c => ?_)
    · skip
      refine r_48_20  (k := ?_)
      have hk2 : σ 24 6 = 0 ↔ keep = false := ⟨fun z => by cases keep with | false => rfl | true => exact absurd z (hk.mpr rfl), fun z => Decidable.byContradiction (fun z2 => by have := hk.mp z2; rw [z] at this; cases this)⟩
      first
      | exact ht (decide_eq_true (Or.inl (by omega)))
      | exact ht (decide_eq_true (Or.inr ⟨by omega, Or.inl ⟨hk.mp (by assumption), by omega⟩⟩))
      | exact ht (decide_eq_true (Or.inr ⟨by omega, Or.inr ⟨Or.inl (hk2.mp (by assumption)), by omega⟩⟩))
      | exact ht (decide_eq_true (Or.inr ⟨by omega, Or.inr ⟨Or.inr (by omega), by omega⟩⟩))
      | (refine hf (fun z => ?_)
         have z2 := of_decide_eq_true z
         rcases z2 with z2 | ⟨z3, ⟨z4, z5⟩ | ⟨z5 | z5, z6⟩⟩
         · omega
         · first | omega | (have := hk.mpr z4; omega)
         · first | omega | (have := hk2.mpr z5; omega)
         · omega)
    · skip
      refine r_48_16  (k := ?_)
      have hk2 : σ 24 6 = 0 ↔ keep = false := ⟨fun z => by cases keep with | false => rfl | true => exact absurd z (hk.mpr rfl), fun z => Decidable.byContradiction (fun z2 => by have := hk.mp z2; rw [z] at this; cases this)⟩
      first
      | exact ht (decide_eq_true (Or.inl (by omega)))
      | exact ht (decide_eq_true (Or.inr ⟨by omega, Or.inl ⟨hk.mp (by assumption), by omega⟩⟩))
      | exact ht (decide_eq_true (Or.inr ⟨by omega, Or.inr ⟨Or.inl (hk2.mp (by assumption)), by omega⟩⟩))
      | exact ht (decide_eq_true (Or.inr ⟨by omega, Or.inr ⟨Or.inr (by omega), by omega⟩⟩))
      | (refine hf (fun z => ?_)
         have z2 := of_decide_eq_true z
         rcases z2 with z2 | ⟨z3, ⟨z4, z5⟩ | ⟨z5 | z5, z6⟩⟩
         · omega
         · first | omega | (have := hk.mpr z4; omega)
         · first | omega | (have := hk2.mpr z5; omega)
         · omega)
/-- the planner in its search -/
def PS (σ0 σ : Mem) (m : Nat) (pf : List Int) (B : Bst) : Prop := (∀ c j, ¬ c = 48 → ¬ c = 49 → ¬ (c = 24 ∧ 9 ≤ j ∧ j ≤ 11) → σ c j = σ0 c j) ∧ (σ 24 9 = B.1 ∧ σ 24 10 = B.2.1 ∧ σ 24 11 = B.2.2.1) ∧ (∀ s : Nat, s < pf.length → σ 48 (s : Int) = pf.getD s 0) ∧ (∀ s : Nat, s < m → σ 49 (s : Int) = B.2.2.2.getD s 0)
theorem PS.GR {σ0 σ : Mem} {m : Nat} {pf : List Int} {B : Bst} (h : PS σ0 σ m pf B) (hG : GR σ0) : GR σ := GR.fr (fun c j => (decide (c = 48) || decide (c = 49)) || (decide (c = 24) && (decide (9 ≤ j) && decide (j ≤ 11)))) hG (fun c j q => h.1 c j (fun z => by simp [z] at q) (fun z => by simp [z] at q) (fun z => by simp [z.1, z.2.1, z.2.2] at q)) (by decide)
/-- what the search stands on: σb before the tables were made, σ0 behind -/
def CX (σb σ0 : Mem) (L rv : List Int) (TM : Nat → List Tm) (keep : Bool) : Prop := GR σ0 ∧ SH σ0 L rv ∧ (SH σb L rv ∧ rv.map (hO σb) = isR (fun h => σb (114 + h) 6) L) ∧ dst L ∧ (∀ h ∈ L, 0 ≤ h) ∧ WV σb ∧ σ0 24 8 = (L.length : Int) ∧ TMs σ0 TM L.length ∧ TBL σb σ0 rv (2 ^ L.length) ∧ (∀ s, (TM s).length ≤ 20) ∧ TMv TM ∧ (¬ σ0 24 6 = 0 ↔ keep = true)
def cstC (σb σ0 : Mem) (L : List Int) (TM : Nat → List Tm) : Cst := cst 5 TM L (fun h => σb (114 + h) 6) (alC σb) (fun p l => trT (wyC σb) (fun h => σb (114 + h) 2) (hmC σb p) l) (fun s => σ0 (114 + L.getD s 0) 9) (fun s => σ0 (114 + L.getD s 0) 10)
/-- the sets of a part of a choice -/
def STS (TM : Nat → List Tm) (pf : List Int) (S : Nat) : Prop := S < 2 ^ 20 ∧ ∀ p s : Nat, p < 5 → s < 4 → S.testBit (4 * p + s) = (decide (s < pf.length) && sitA (tmA TM pf s) p)
theorem STS.one {TM : Nat → List Tm} {pf : List Int} {S p m : Nat} (h : STS TM pf S) (hp : p < 5) (hl : pf.length = m) (hm : m ≤ 4) : ((S >>> (4 * p)) &&& 15) < 2 ^ m ∧ ∀ s, s < m → ((S >>> (4 * p)) &&& 15).testBit s = sitA (tmA TM pf s) p := by
  have tb : ∀ s, ((S >>> (4 * p)) &&& 15).testBit s = (decide (s < 4) && S.testBit (4 * p + s)) := fun s => by
    rw [Nat.testBit_and, Nat.testBit_shiftRight, show (15 : Nat) = 2 ^ 4 - 1 from rfl, Nat.testBit_two_pow_sub_one, Bool.and_comm]
  constructor
  · refine Nat.lt_pow_two_of_testBit _ (fun s hs => ?_)
    rw [tb]
    by_cases h4 : s < 4
    · rw [h.2 p s hp h4, decide_eq_false (show ¬ s < pf.length by omega)]; simp
    · rw [decide_eq_false h4]; rfl
  · intro s hs
    rw [tb, h.2 p s hp (by omega), decide_eq_true (show s < 4 by omega), decide_eq_true (show s < pf.length by omega)]
    simp
theorem getD_app {pf : List Int} {i : Int} {s : Nat} (h : s < pf.length) : (pf ++ [i]).getD s 0 = pf.getD s 0 := by
  rw [List.getD_eq_getElem?_getD, List.getD_eq_getElem?_getD, List.getElem?_append_left h]
theorem getD_last {pf : List Int} {i : Int} : (pf ++ [i]).getD pf.length 0 = i := by
  rw [List.getD_eq_getElem?_getD, List.getElem?_append_right (Nat.le_refl _)]; simp
theorem STS.add {TM : Nat → List Tm} {pf : List Int} {S : Nat} {i : Int} (h : STS TM pf S) (hv : TMv TM) (hl : pf.length < 4) : STS TM (pf ++ [i]) (S ||| (sbN ((TM pf.length).getD i.toNat (-1, -1, -1)).1 pf.length ||| sbN ((TM pf.length).getD i.toNat (-1, -1, -1)).2.1 pf.length)) := by
  have v := hv pf.length i.toNat
  refine ⟨Nat.or_lt_two_pow h.1 (Nat.or_lt_two_pow (sbN_lt v.1 hl) (sbN_lt v.2 hl)), fun p s hp hs => ?_⟩
  rw [Nat.testBit_or, Nat.testBit_or, h.2 p s hp hs, sbN_tb v.1 hl hs, sbN_tb v.2 hl hs, List.length_append]
  by_cases e : s = pf.length
  · have et : tmA TM (pf ++ [i]) s = (TM pf.length).getD i.toNat (-1, -1, -1) := by unfold tmA; rw [e, getD_last]
    rw [et, decide_eq_false (show ¬ s < pf.length by omega), decide_eq_true (show s < pf.length + [i].length by simp; omega)]
    unfold sitA
    generalize (TM pf.length).getD i.toNat (-1, -1, -1) = t
    by_cases h1 : t.1 = (p : Int)
    · simp [h1, e]
    · by_cases h2 : t.2.1 = (p : Int)
      · simp [h1, h2, e]
      · simp [h1, h2]
  · have d1 : decide (((TM pf.length).getD i.toNat (-1, -1, -1)).1 = (p : Int) ∧ pf.length = s) = false := decide_eq_false (fun z => e z.2.symm)
    have d2 : decide (((TM pf.length).getD i.toNat (-1, -1, -1)).2.1 = (p : Int) ∧ pf.length = s) = false := decide_eq_false (fun z => e z.2.symm)
    rw [d1, d2]
    by_cases hlt : s < pf.length
    · have et : tmA TM (pf ++ [i]) s = tmA TM pf s := by unfold tmA; rw [getD_app hlt]
      rw [et, decide_eq_true hlt, decide_eq_true (show s < pf.length + [i].length by simp; omega)]
      simp
    · rw [decide_eq_false hlt, decide_eq_false (show ¬ s < pf.length + [i].length by simp; omega)]
      simp
theorem l_weigh {d : Nat} {n : Nat} {Q : Pst} {σb σ0 σ : Mem} {L rv pf : List Int} {TM : Nat → List Tm} {keep : Bool} {B : Bst} {S : Nat} {l g : Int} (hX : CX σb σ0 L rv TM keep) (hP : PS σ0 σ L.length pf B) (hl : pf.length = L.length) (hS : STS TM pf S) (el : l = (cstC σb σ0 L TM).2.1 pf) (eg : g = (cstC σb σ0 L TM).2.2.1 pf) (k : ∀ τ, PS σ0 τ L.length pf (wgh keep (cstC σb σ0 L TM) B pf) → Q none τ n) : ∀ (f p : Nat) (t : Int) (l6 : AV), p ≤ 5 → 5 - p < f → (∀ q, q < p → hoR (alC σb) (liP TM L (fun h => σb (114 + h) 6) pf q) = true) → t = sumN (fun p => trT (wyC σb) (fun h => σb (114 + h) 2) (hmC σb p) (liP TM L (fun h => σb (114 + h) 6) pf p)) p → (0 ≤ t ∧ t ≤ 3000 * p) → EV (d + 1) 47 6 [(17, 24), (0, (S : Int)), (0, l), (0, g), (0, t), (0, (p : Int)), l6] [] σ n Q := by
  obtain ⟨hG0, hS0, ⟨hSb, hrv⟩, hd, hL, hW, h8, hT, hTB, hl20, hv, hk⟩ := hX
  have s2 := hS0.2.1
  have hG := hP.GR hG0
  have p4 : 2 ^ L.length ≤ 2 ^ 4 := Nat.pow_le_pow_right (by decide) s2
  have S20 : S < 1048576 := hS.1
  intro f
  induction f with
  | zero => intros; exfalso; omega
  | succ f ih =>
    intro p t l6 hp5 hf hok ht htb
    refine r_47_6 (ht := fun c => ?_) (hf := fun c => ?_)
    · have e5 : p = 5 := by omega
      subst e5
      have okp : (cstC σb σ0 L TM).1 pf = true := allN_iff.mpr hok
      have etr : t = (cstC σb σ0 L TM).2.2.2 pf := ht
      refine r_47_58 (k := ?_)
      refine s_isBetter (keep := keep) (B := B) (by rw [hP.1 24 6 (by decide) (by decide) (by decide)]; exact hk) hP.2.1.1 hP.2.1.2.1 hP.2.1.2.2 (fun c2 => ?_) (fun c2 => ?_)
      · dsimp only [Option.toList_some, List.cons_append, List.nil_append]
        refine r_47_66 (ht := fun c => absurd c (by decide)) (hf := fun _ => ?_)
        refine r_47_69 (hG := hG) (k := k _ ?_)
        have ew : wgh keep (cstC σb σ0 L TM) B pf = (l, g, t, pf) := by unfold wgh; rw [if_pos ⟨okp, by rw [← el, ← eg, ← etr]; exact c2⟩, ← el, ← eg, ← etr]
        rw [ew]
        have cp : ∀ c j, ¬ c = 49 → cpM (wrM (wrM (wrM σ 24 9 l) 24 10 g) 24 11 t) 48 0 49 0 4 c j = wrM (wrM (wrM σ 24 9 l) 24 10 g) 24 11 t c j := fun c j hc => if_neg (fun z => hc z.1)
        refine ⟨fun c j a1 a2 a3 => ?_, ⟨?_, ?_, ?_⟩, fun s hs => ?_, fun s hs => ?_⟩
        · rw [cp c j a2, wr_j (by omega), wr_j (by omega), wr_j (by omega)]; exact hP.1 c j a1 a2 a3
        · rw [cp _ _ (by decide), wr_nej (by decide), wr_nej (by decide), wr_same]
        · rw [cp _ _ (by decide), wr_nej (by decide), wr_same]
        · rw [cp _ _ (by decide), wr_same]
        · rw [cp _ _ (by decide), wr_ne (by decide), wr_ne (by decide), wr_ne (by decide)]; exact hP.2.2.1 s hs
        · show (if (49 : Int) = 49 ∧ 0 ≤ (s : Int) ∧ (s : Int) < 0 + 4 then wrM (wrM (wrM σ 24 9 l) 24 10 g) 24 11 t 48 (0 + ((s : Int) - 0)) else _) = _
          rw [if_pos (by omega), show (0 : Int) + ((s : Int) - 0) = s by omega, wr_ne (by decide), wr_ne (by decide), wr_ne (by decide)]
          exact hP.2.2.1 s (by omega)
      · dsimp only [Option.toList_some, List.cons_append, List.nil_append]
        refine r_47_66 (ht := fun _ => ?_) (hf := fun c => absurd rfl c)
        refine r_47_99 (k := k σ ?_)
        have ew : wgh keep (cstC σb σ0 L TM) B pf = B := by unfold wgh; rw [if_neg (fun z => c2 (by rw [el, eg, etr]; exact z.2))]
        rw [ew]; exact hP
    · have hp : p < 5 := by omega
      obtain ⟨o1, o2⟩ := hS.one hp hl s2
      have zq : Zand (Zshr (S : Int) (Zmul (p : Int) 4)) 15 = (((S >>> (4 * p)) &&& 15 : Nat) : Int) := by
        rw [Zmul_eq (by omega) (by omega), show (p : Int) * 4 = ((4 * p : Nat) : Int) by omega, Zshr_nat (by omega) (by omega)]
        exact Zand_nat (b := 15) (Nat.lt_of_le_of_lt (by rw [Nat.shiftRight_eq_div_pow]; exact Nat.div_le_self _ _) (show S < 2147483648 by omega))
      obtain ⟨t1, t2⟩ := hTB _ o1
      have em : mbL σb ((S >>> (4 * p)) &&& 15) rv = liP TM L (fun h => σb (114 + h) 6) pf p := mbL_eq hSb hrv (fun i x hx => by
        have hi : i < L.length := by
          rcases Nat.lt_or_ge i L.length with q | q
          · exact q
          · rw [List.getElem?_eq_none q] at hx; cases hx
        rw [o2 i hi]
        unfold sH
        rw [ix_of hd hx])
      rw [em] at t1 t2
      have e46 : σ 46 (((S >>> (4 * p)) &&& 15 : Nat) : Int) = σ0 46 (((S >>> (4 * p)) &&& 15 : Nat) : Int) := hP.1 46 _ (by decide) (by decide) (by omega)
      refine r_47_12 (hG := hG) (h0 := by rw [zq]; omega) (ht := fun c2 => ?_) (hf := fun c2 => ?_)
      · rw [zq, e46, t1] at c2
        have hh : hoR (alC σb) (liP TM L (fun h => σb (114 + h) 6) pf p) = true := by
          split at c2
          · assumption
          · exact absurd rfl c2
        rw [zq]
        have z1 : Zadd (Zmul (p : Int) 16) (((S >>> (4 * p)) &&& 15 : Nat) : Int) = (p : Int) * 16 + (((S >>> (4 * p)) &&& 15 : Nat) : Int) := by simp (disch := omega) only [Zadd_eq, Zmul_eq]
        refine r_47_34 (hG := hG) (h0 := by rw [z1]; omega) (k := ?_)
        rw [z1, hP.1 47 _ (by decide) (by decide) (by omega), t2 p hp, Zadd_nat (by omega)]
        have b1 := trR_b (w := wyC σb) (tw := fun h => σb (114 + h) 2) (home := hmC σb p) (wyC_b hW) (liP TM L (fun h => σb (114 + h) 6) pf p)
        have b2 := wyC_b hW (trR (wyC σb) (fun h => σb (114 + h) 2) (hmC σb p) (liP TM L (fun h => σb (114 + h) 6) pf p)).1 (hmC σb p)
        have b3 : (liP TM L (fun h => σb (114 + h) 6) pf p).length ≤ 4 := by
          unfold liP; rw [isR_len]
          have := List.length_filter_le (sH TM L pf p) L
          omega
        have b4 : 0 ≤ trT (wyC σb) (fun h => σb (114 + h) 2) (hmC σb p) (liP TM L (fun h => σb (114 + h) 6) pf p) ∧ trT (wyC σb) (fun h => σb (114 + h) 2) (hmC σb p) (liP TM L (fun h => σb (114 + h) 6) pf p) ≤ 3000 := by unfold trT; omega
        rw [Zadd_eq (by omega) (by omega)]
        refine ih (p + 1) _ _ (by omega) (by omega) (fun q hq => ?_) (by rw [sumN_s, ← ht]) (by omega)
        by_cases e : q = p
        · rw [e]; exact hh
        · exact hok q (by omega)
      · rw [zq, e46, t1] at c2
        have hh : ¬ hoR (alC σb) (liP TM L (fun h => σb (114 + h) 6) pf p) = true := fun z => by rw [if_pos z] at c2; omega
        refine r_47_33 (k := k σ ?_)
        have ew : wgh keep (cstC σb σ0 L TM) B pf = B := by unfold wgh; rw [if_neg (fun z => hh (allN_iff.mp z.1 p hp))]
        rw [ew]; exact hP
theorem s_weigh {d : Nat} {n : Nat} {Q : Pst} {σb σ0 σ : Mem} {L rv pf : List Int} {TM : Nat → List Tm} {keep : Bool} {B : Bst} {S : Nat} {l g : Int} (hX : CX σb σ0 L rv TM keep) (hP : PS σ0 σ L.length pf B) (hl : pf.length = L.length) (hS : STS TM pf S) (el : l = (cstC σb σ0 L TM).2.1 pf) (eg : g = (cstC σb σ0 L TM).2.2.1 pf) (k : ∀ τ, PS σ0 τ L.length pf (wgh keep (cstC σb σ0 L TM) B pf) → Q none τ n) : EVM (d + 1) 47 [(17, 24), (0, (S : Int)), (0, l), (0, g)] σ n Q := by
  show EV (d + 1) 47 0 [(17, 24), (0, (S : Int)), (0, l), (0, g), (9, 0), (9, 0), (9, 0)] [] σ n Q
  refine r_47_0 (k := ?_)
  exact l_weigh hX hP hl hS el eg k 6 0 0 _ (by omega) (by omega) (fun q hq => by omega) rfl (by omega)
set_option maxHeartbeats 4000000 in
theorem s_search {n : Nat} {σb σ0 : Mem} {L rv : List Int} {TM : Nat → List Tm} {keep : Bool} (hX : CX σb σ0 L rv TM keep) : ∀ (r : Nat) (D : Nat) (_ : r + 3 ≤ D) (Q : Pst) (pf : List Int) (σ : Mem) (B : Bst) (S : Nat) (l g : Int), pf.length + r = L.length → PS σ0 σ L.length pf B → STS TM pf S → l = (cstC σb σ0 L TM).2.1 pf → g = (cstC σb σ0 L TM).2.2.1 pf → (∀ τ, PS σ0 τ L.length pf (sF keep (cstC σb σ0 L TM) (fun s => (TM s).length) r pf B) → Q none τ n) → EVM D 42 [(17, 24), (0, (pf.length : Int)), (0, (S : Int)), (0, l), (0, g)] σ n Q := by
  have hX0 := hX
  obtain ⟨hG0, hS0, ⟨hSb, hrv⟩, hd, hL, hW, h8, hT, hTB, hl20, hv, hk⟩ := hX
  have s2 := hS0.2.1
  intro r
  induction r with
  | zero =>
    intro D hD Q pf σ B S l g hpr hP hS el eg k
    obtain ⟨d, rfl⟩ : ∃ d, D = d + 3 := ⟨D - 3, by omega⟩
    have wb : 0 ≤ (cstC σb σ0 L TM).2.1 pf ∧ (cstC σb σ0 L TM).2.1 pf ≤ pf.length := cst_wo pf
    have gb : 0 ≤ (cstC σb σ0 L TM).2.2.1 pf ∧ (cstC σb σ0 L TM).2.2.1 pf ≤ 2 * pf.length := cst_cg pf
    show EV (d + 3) 42 0 [(17, 24), (0, (pf.length : Int)), (0, (S : Int)), (0, l), (0, g), (9, 0), (9, 0), (9, 0)] [] σ n Q
    have e8 : σ 24 8 = (L.length : Int) := by rw [hP.1 24 8 (by decide) (by decide) (by decide)]; exact h8
    have e6 : σ 24 6 = σ0 24 6 := hP.1 24 6 (by decide) (by decide) (by decide)
    refine r_42_0 (k := ?_)
    refine s_isPastBest (fun c => ?_) (fun c => ?_)
    · dsimp only [Option.toList_some, List.cons_append, List.nil_append]
      refine r_42_7 (ht := fun c => absurd c (by decide)) (hf := fun _ => ?_)
      refine r_42_10 (k := k σ ?_)
      rw [hP.2.1.1, hP.2.1.2.1, e6, el, eg] at c
      rw [show sF keep (cstC σb σ0 L TM) (fun s => (TM s).length) 0 pf B = B from past 0 (by
        rcases c with c | ⟨c1, c2, c3⟩
        · exact Or.inl c
        · exact Or.inr ⟨hk.mp c1, c2, c3⟩)]
      exact hP
    · dsimp only [Option.toList_some, List.cons_append, List.nil_append]
      refine r_42_7 (ht := fun _ => ?_) (hf := fun c => absurd rfl c)
      refine r_42_11 (ht := fun c2 => ?_) (hf := fun c2 => by exfalso; omega)
      refine r_42_24 (k := ?_)
      refine s_weigh (d := d + 1) hX0 hP (by omega) hS el eg (fun τ h => ?_)
      dsimp only [Option.toList_none, List.nil_append]
      exact r_42_32 (k := k τ h)
  | succ r ih =>
    intro D hD Q pf σ B S l g hpr hP hS el eg k
    obtain ⟨d, rfl⟩ : ∃ d, D = d + 4 := ⟨D - 4, by omega⟩
    have wb : 0 ≤ (cstC σb σ0 L TM).2.1 pf ∧ (cstC σb σ0 L TM).2.1 pf ≤ pf.length := cst_wo pf
    have gb : 0 ≤ (cstC σb σ0 L TM).2.2.1 pf ∧ (cstC σb σ0 L TM).2.2.1 pf ≤ 2 * pf.length := cst_cg pf
    show EV (d + 4) 42 0 [(17, 24), (0, (pf.length : Int)), (0, (S : Int)), (0, l), (0, g), (9, 0), (9, 0), (9, 0)] [] σ n Q
    have e8 : σ 24 8 = (L.length : Int) := by rw [hP.1 24 8 (by decide) (by decide) (by decide)]; exact h8
    have e6 : σ 24 6 = σ0 24 6 := hP.1 24 6 (by decide) (by decide) (by decide)
    have S20 : S < 1048576 := hS.1
    refine r_42_0 (k := ?_)
    refine s_isPastBest (fun c => ?_) (fun c => ?_)
    · dsimp only [Option.toList_some, List.cons_append, List.nil_append]
      refine r_42_7 (ht := fun c => absurd c (by decide)) (hf := fun _ => ?_)
      refine r_42_10 (k := k σ ?_)
      rw [hP.2.1.1, hP.2.1.2.1, e6, el, eg] at c
      rw [show sF keep (cstC σb σ0 L TM) (fun s => (TM s).length) (r + 1) pf B = B from past (r + 1) (by
        rcases c with c | ⟨c1, c2, c3⟩
        · exact Or.inl c
        · exact Or.inr ⟨hk.mp c1, c2, c3⟩)]
      exact hP
    · dsimp only [Option.toList_some, List.cons_append, List.nil_append]
      refine r_42_7 (ht := fun _ => ?_) (hf := fun c => absurd rfl c)
      refine r_42_11 (ht := fun c2 => by exfalso; omega) (hf := fun c2 => ?_)
      refine r_42_19 (ht := fun c3 => ?_) (hf := fun c3 => by exfalso; omega)
      have hG := hP.GR hG0
      have e25 := gr25 hG (j := pf.length) (by omega)
      refine r_42_33 (hG := hG) (h0 := by omega) (h1 := by omega) (k := ?_)
      have eN : σ (σ 25 (pf.length : Int)) 4 = ((TM pf.length).length : Int) := by
        rw [e25, hP.1 _ _ (by omega) (by omega) (by omega)]
        exact (hT pf.length (by omega)).1
      rw [eN]
      have hlN := hl20 pf.length
      -- the loop over the teams
      have loop : ∀ (f i : Nat) (l7 : AV) (τ : Mem), i ≤ (TM pf.length).length + 1 → (TM pf.length).length + 1 - i < f → PS σ0 τ L.length pf (itN (fun i B => sF keep (cstC σb σ0 L TM) (fun s => (TM s).length) r (pf ++ [(i : Int)]) B) i B) → EV (d + 4) 42 47 [(17, 24), (0, (pf.length : Int)), (0, (S : Int)), (0, l), (0, g), (0, ((TM pf.length).length : Int)), (0, (i : Int)), l7] [] τ n Q := by
        intro f
        induction f with
        | zero => intros; exfalso; omega
        | succ f ihf =>
          intro i l7 τ hi hf hPi
          refine r_42_47 (ht := fun c4 => ?_) (hf := fun c4 => ?_)
          · refine r_42_112 (k := k τ ?_)
            rw [sF_s, show (TM pf.length).length + 1 = i by omega]
            exact hPi
          · have hGi := hPi.GR hG0
            refine r_42_54 (hG := hGi) (h0 := by omega) (k := ?_)
            have hP2 : PS σ0 (wrM τ 48 (pf.length : Int) (i : Int)) L.length (pf ++ [(i : Int)]) (itN (fun i B => sF keep (cstC σb σ0 L TM) (fun s => (TM s).length) r (pf ++ [(i : Int)]) B) i B) := by
              refine ⟨fun c j a1 a2 a3 => by rw [wr_ne a1]; exact hPi.1 c j a1 a2 a3, ⟨by rw [wr_ne (by decide)]; exact hPi.2.1.1, by rw [wr_ne (by decide)]; exact hPi.2.1.2.1, by rw [wr_ne (by decide)]; exact hPi.2.1.2.2⟩, fun s hs => ?_, fun s hs => by rw [wr_ne (by decide)]; exact hPi.2.2.2 s hs⟩
              rw [List.length_append] at hs
              by_cases e : s = pf.length
              · rw [e, wr_same, getD_last]
              · have hs2 : s < pf.length := by simp at hs; omega
                rw [wr_nej (by omega), getD_app hs2]; exact hPi.2.2.1 s hs2
            have hG2 := hP2.GR hG0
            have hT2 : TMs (wrM τ 48 (pf.length : Int) (i : Int)) TM L.length := TMs_fr hT (fun c j a1 a2 => hP2.1 c j (by omega) (by omega) (by omega)) s2
            have hSh2 : SH (wrM τ 48 (pf.length : Int) (i : Int)) L rv := hS0.fr (hP2.1 21 2 (by decide) (by decide) (by decide)) (fun x => hP2.1 22 x (by decide) (by decide) (by omega)) (fun x => hP2.1 23 x (by decide) (by decide) (by omega))
            refine s_setsOf (d := d + 1) (x := (i : Int)) hG2 hT2 hv (by omega) s2 hlN (by omega) ?_
            dsimp only [Option.toList_some, List.cons_append, List.nil_append]
            rw [Int.toNat_natCast]
            have v1 := hv pf.length i
            have b1 := sbN_lt v1.1 (show pf.length < 4 by omega)
            have b2 := sbN_lt v1.2 (show pf.length < 4 by omega)
            have b3 := Nat.or_lt_two_pow b1 b2
            have S2 := hS.add (i := (i : Int)) hv (by omega)
            rw [Int.toNat_natCast] at S2
            have eL : ∀ j, (wrM τ 48 (pf.length : Int) (i : Int)) (114 + L.getD pf.length 0) j = σ0 (114 + L.getD pf.length 0) j := fun j => hP2.1 _ j (by
              have : 0 ≤ L.getD pf.length 0 := by
                rw [List.getD_eq_getElem?_getD, List.getElem?_eq_getElem (show pf.length < L.length by omega)]
                exact hL _ (List.getElem_mem _)
              omega) (by
              have : 0 ≤ L.getD pf.length 0 := by
                rw [List.getD_eq_getElem?_getD, List.getElem?_eq_getElem (show pf.length < L.length by omega)]
                exact hL _ (List.getElem_mem _)
              omega) (by
              have : 0 ≤ L.getD pf.length 0 := by
                rw [List.getD_eq_getElem?_getD, List.getElem?_eq_getElem (show pf.length < L.length by omega)]
                exact hL _ (List.getElem_mem _)
              omega)
            have ew : (cstC σb σ0 L TM).2.1 (pf ++ [(i : Int)]) = (cstC σb σ0 L TM).2.1 pf + (if (i : Int) = ((TM pf.length).length : Int) then 1 else 0) := smL_app (g := fun s x => if x = ((TM s).length : Int) then 1 else 0) (pf := pf) (i := (i : Int))
            have eg2 : (cstC σb σ0 L TM).2.2.1 (pf ++ [(i : Int)]) = (cstC σb σ0 L TM).2.2.1 pf + (lev (σ0 (114 + L.getD pf.length 0) 9) ((TM pf.length).getD i (-1, -1, -1)) + lev (σ0 (114 + L.getD pf.length 0) 10) ((TM pf.length).getD i (-1, -1, -1))) := by
              have := smL_app (g := fun s x => lev (σ0 (114 + L.getD s 0) 9) ((TM s).getD x.toNat (-1, -1, -1)) + lev (σ0 (114 + L.getD s 0) 10) ((TM s).getD x.toNat (-1, -1, -1))) (pf := pf) (i := (i : Int))
              rw [Int.toNat_natCast] at this
              exact this
            have lb1 := @lev_b (σ0 (114 + L.getD pf.length 0) 9) ((TM pf.length).getD i (-1, -1, -1))
            have lb2 := @lev_b (σ0 (114 + L.getD pf.length 0) 10) ((TM pf.length).getD i (-1, -1, -1))
            have zo : Zor (S : Int) ((sbN ((TM pf.length).getD i (-1, -1, -1)).1 pf.length ||| sbN ((TM pf.length).getD i (-1, -1, -1)).2.1 pf.length : Nat) : Int) = ((S ||| (sbN ((TM pf.length).getD i (-1, -1, -1)).1 pf.length ||| sbN ((TM pf.length).getD i (-1, -1, -1)).2.1 pf.length) : Nat) : Int) := Zor_nat (by omega) (by omega)
            -- behind the changes: the search goes on
            have go : ∀ (l2 : Int) (x7 : Int), l2 = (cstC σb σ0 L TM).2.1 (pf ++ [(i : Int)]) → EV (d + 4) 42 102 [(17, 24), (0, (pf.length : Int)), (0, (S : Int)), (0, l), (0, g), (0, ((TM pf.length).length : Int)), (0, (i : Int)), (0, x7)] [(0, lev (σ0 (114 + L.getD pf.length 0) 9) ((TM pf.length).getD i (-1, -1, -1)) + lev (σ0 (114 + L.getD pf.length 0) 10) ((TM pf.length).getD i (-1, -1, -1))), (0, g), (0, l2), (0, ((S ||| (sbN ((TM pf.length).getD i (-1, -1, -1)).1 pf.length ||| sbN ((TM pf.length).getD i (-1, -1, -1)).2.1 pf.length) : Nat) : Int)), (0, Zadd (pf.length : Int) 1), (17, 24)] (wrM τ 48 (pf.length : Int) (i : Int)) n Q := fun l2 x7 e2 => by
              refine r_42_102 (k := ?_)
              rw [Zadd_eq (a := g) (by omega) (by omega), Zadd_nat (by omega)]
              have := ih (d + 3) (by omega) (fun rr σ1 n1 => EV (d + 4) 42 106 [(17, 24), (0, (pf.length : Int)), (0, (S : Int)), (0, l), (0, g), (0, ((TM pf.length).length : Int)), (0, (i : Int)), (0, x7)] (rr.toList ++ []) σ1 n1 Q) (pf ++ [(i : Int)]) _ _ _ l2 _ (by rw [List.length_append]; simp; omega) hP2 S2 e2 (show g + _ = _ by rw [eg2, eg])
              rw [List.length_append] at this
              refine this (fun τ2 h2 => ?_)
              dsimp only [Option.toList_none, List.nil_append]
              refine r_42_106 (k := ?_)
              rw [Zadd_nat (by omega)]
              refine ihf (i + 1) _ τ2 (by omega) (by omega) ?_
              rw [itN_s]
              exact ⟨h2.1, h2.2.1, fun s hs => by rw [h2.2.2.1 s (by rw [List.length_append]; simp; omega), getD_app hs], h2.2.2.2⟩
            refine r_42_69 (ht := fun c5 => ?_) (hf := fun c5 => ?_)
            · refine r_42_92 (k := ?_)
              refine s_changesAt (d := d + 1) (x := (i : Int)) hG2 hSh2 hL hT2 (by omega) hlN (by omega) ?_
              dsimp only [Option.toList_some, List.cons_append, List.nil_append]
              rw [eL, eL, Int.toNat_natCast, zo]
              exact go l _ (by rw [ew, if_neg c5, el]; omega)
            · refine r_42_86 (k := ?_)
              refine s_changesAt (d := d + 1) (x := (i : Int)) hG2 hSh2 hL hT2 (by omega) hlN (by omega) ?_
              dsimp only [Option.toList_some, List.cons_append, List.nil_append]
              rw [eL, eL, Int.toNat_natCast, zo, Zadd_eq (a := l) (by omega) (by omega)]
              exact go (l + 1) _ (by rw [ew, if_pos c5, el])
      exact loop ((TM pf.length).length + 2) 0 _ σ (by omega) (by omega) hP
