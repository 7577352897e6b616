/-! plan: the reference: what a choice is worth -/
/-- what the reference's search stands on -/
def CM (σ0 : Mem) (L : List Int) (TM : Nat → List Tm) (P : Nat) : Prop := GR σ0 ∧ L.length ≤ 4 ∧ σ0 69 28 = (L.length : Int) ∧ (∀ s : Nat, s < L.length → σ0 94 (s : Int) = L.getD s 0) ∧ (∀ h ∈ L, HR σ0 h) ∧ dst L ∧ (∀ s : Nat, s < L.length → σ0 93 (s : Int) = ((TM s).length : Int) ∧ TLs σ0 90 (30 * (s : Int)) (TM s)) ∧ (∀ s, (TM s).length ≤ 20) ∧ (∀ s, ∀ t ∈ TM s, tmV P t) ∧ (σ0 69 2 = (P : Int) ∧ P ≤ 5) ∧ (∀ q, 0 ≤ q → q < (P : Int) → 0 ≤ σ0 72 q ∧ σ0 72 q ≤ 5) ∧ WM σ0 ∧ (0 ≤ σ0 69 11 ∧ σ0 69 11 ≤ 120)
/-- the reference in its search: the choice so far, what stands in the next slot, the best -/
def QX (σ0 σ : Mem) (m : Nat) (pf : List Int) (x : Int) (B : Bst) : Prop := (∀ c j, ¬ (95 ≤ c ∧ c ≤ 97) → ¬ (c = 69 ∧ 33 ≤ j ∧ j ≤ 36) → σ c j = σ0 c j) ∧ (σ 69 34 = B.1 ∧ σ 69 35 = B.2.1 ∧ σ 69 36 = B.2.2.1) ∧ (∀ s : Nat, s < pf.length → σ 95 (s : Int) = pf.getD s 0) ∧ σ 95 (pf.length : Int) = x ∧ (∀ s : Int, (pf.length : Int) < s → s < 4 → σ 95 s = -1) ∧ (∀ s : Nat, s < m → σ 96 (s : Int) = B.2.2.2.getD s 0)
theorem QX.GR {σ0 σ : Mem} {m : Nat} {pf : List Int} {x : Int} {B : Bst} (h : QX σ0 σ m pf x B) (hG : GR σ0) : GR σ := GR.fr (fun c j => (decide (95 ≤ c) && decide (c ≤ 97)) || (decide (c = 69) && (decide (33 ≤ j) && decide (j ≤ 36)))) hG (fun c j q => h.1 c j (fun z => by simp [z.1, z.2] at q) (fun z => by simp [z.1, z.2.1, z.2.2] at q)) (by decide)
def vld (TM : Nat → List Tm) (pf : List Int) : Prop := ∀ s : Nat, s < pf.length → 0 ≤ pf.getD s 0 ∧ pf.getD s 0 ≤ ((TM s).length : Int)
/-- sits, of a slot that is chosen -/
theorem m_sits {d : Nat} {n : Nat} {Q : Pst} {σ0 σ : Mem} {L pf : List Int} {TM : Nat → List Tm} {P s : Nat} {p : Int} (hC : CM σ0 L TM P) (hG : GR σ) (h93 : ∀ c j, 90 ≤ c → c ≤ 93 → σ c j = σ0 c j) (h95 : σ 95 (s : Int) = pf.getD s 0) (hv : 0 ≤ pf.getD s 0 ∧ pf.getD s 0 ≤ ((TM s).length : Int)) (hs : s < L.length) (hp : ¬ p = -1) (ht : sitA (tmA TM pf s) p = true → Q (some (0, 1)) σ n) (hf : ¬ sitA (tmA TM pf s) p = true → Q (some (0, 0)) σ n) : EVM d 149 [(22, 69), (0, (s : Int)), (0, p)] σ n Q := by
  show EV d 149 0 [(22, 69), (0, (s : Int)), (0, p), (9, 0)] [] σ n Q
  obtain ⟨hG0, h4, h28, h94, hH, hd, hT, hl20, htv, hPp, hho, hW, hr⟩ := hC
  obtain ⟨t1, t2⟩ := hT s hs
  have hl := hl20 s
  have e93 := h93 93 (s : Int) (by decide) (by decide)
  refine r_149_0 (hG := hG) (h0 := by omega) (h1 := by omega) (ht := fun c => ?_) (hf := fun c => ?_)
  · refine r_149_51 (k := hf (fun z => ?_))
    have e : tmA TM pf s = (-1, -1, -1) := by
      unfold tmA
      rw [List.getD_eq_getElem?_getD, List.getElem?_eq_none (by omega)]; rfl
    rw [e] at z
    have := of_decide_eq_true z
    have : (-1 : Int) = p ∨ (-1 : Int) = p := this
    omega
  · have hlt : (pf.getD s 0).toNat < (TM s).length := by omega
    have hx := List.getElem?_eq_getElem hlt
    have e : tmA TM pf s = (TM s)[(pf.getD s 0).toNat] := by unfold tmA; rw [List.getD_eq_getElem?_getD, hx]; rfl
    obtain ⟨q1, q2, q3⟩ := t2 _ _ hx
    have z : Zadd (Zmul 30 (s : Int)) (σ 95 (s : Int)) = 30 * (s : Int) + (((pf.getD s 0).toNat : Nat) : Int) := by
      rw [h95]; simp (disch := omega) only [Zadd_eq, Zmul_eq]; omega
    rw [← h93 90 _ (by decide) (by decide), ← e] at q1
    rw [← h93 (90 + 1) _ (by decide) (by decide), ← e] at q2
    refine r_149_17 (hG := hG) (h0 := by rw [z]; omega) (ht := fun c2 => ?_) (hf := fun c2 => ?_)
    · rw [z, q1] at c2
      exact r_149_47 (k := ht (decide_eq_true (Or.inl c2)))
    · rw [z, q1] at c2
      refine r_149_32 (hG := hG) (h0 := by rw [z]; omega) (ht := fun c3 => ?_) (hf := fun c3 => ?_)
      · rw [z] at c3
        have c3 : ¬ (tmA TM pf s).2.1 = p := by rw [← q2]; exact c3
        refine r_149_51 (k := hf (fun y => ?_))
        rcases of_decide_eq_true y with y | y
        · exact c2 y
        · exact c3 y
      · rw [z] at c3
        have c3 : (tmA TM pf s).2.1 = p := by rw [← q2]; exact c3
        exact r_149_47 (k := ht (decide_eq_true (Or.inr c3)))
theorem l_coll {d : Nat} {n : Nat} {Q : Pst} {σ0 σs : Mem} {L pf : List Int} {TM : Nat → List Tm} {P : Nat} {p x : Int} {B : Bst} (hC : CM σ0 L TM P) (hX : QX σ0 σs L.length pf x B) (hv : vld TM pf) (hl : pf.length = L.length) (hp : ¬ p = -1) (k : ∀ τ, MN σs τ (liP TM L (σ0 81) pf p) → Q none τ n) : ∀ (f s : Nat) (σ : Mem), s ≤ L.length → L.length - s < f → MN σs σ (isR (σ0 81) ((L.take s).filter (sH TM L pf p))) → EV (d + 1) 150 7 [(22, 69), (0, p), (0, (L.length : Int)), (0, (s : Int))] [] σ n Q := by
  have hC0 := hC
  obtain ⟨hG0, h4, h28, h94, hH, hd, hT, hl20, htv, hPp, hho, hW, hr⟩ := hC
  have hGs := hX.GR hG0
  intro f
  induction f with
  | zero => intros; exfalso; omega
  | succ f ih =>
    intro s σ hs hk hM
    have hG := hM.GR hGs
    refine r_150_7 (ht := fun c => ?_) (hf := fun c => ?_)
    · refine r_150_37 (k := k σ ?_)
      rw [List.take_of_length_le (by omega)] at hM
      exact hM
    · have hsl : s < L.length := by omega
      have hx := List.getElem?_eq_getElem hsl
      have ed : L.getD s 0 = L[s] := by rw [List.getD_eq_getElem?_getD, hx]; rfl
      have etk : L.take (s + 1) = L.take s ++ [L[s]] := by rw [List.take_succ, hx]; rfl
      have esH : sH TM L pf p L[s] = sitA (tmA TM pf s) p := by unfold sH; rw [ix_of hd hx]
      have e94 : σ 94 (s : Int) = L[s] := by rw [hM.1 94 _ (by decide) (by omega), hX.1 94 _ (by decide) (by omega), h94 s hsl, ed]
      refine r_150_12 (k := ?_)
      refine m_sits hC0 hG (fun c j a1 a2 => by rw [hM.1 c j (by omega) (by omega)]; exact hX.1 c j (by omega) (by omega)) (by rw [hM.1 95 _ (by decide) (by omega)]; exact hX.2.2.1 s (by omega)) (hv s (by omega)) hsl hp (fun c2 => ?_) (fun c2 => ?_)
      · dsimp only [Option.toList_some, List.cons_append, List.nil_append]
        refine r_150_18 (ht := fun c => absurd c (by decide)) (hf := fun _ => ?_)
        refine r_150_21 (hG := hG) (h0 := by omega) (k := ?_)
        rw [e94]
        have hHs := hH _ (List.getElem_mem hsl)
        have hb : ∀ e ∈ isR (σ0 81) ((L.take s).filter (sH TM L pf p)), 0 ≤ e ∧ e < 24 := fun e he => (hH e (List.mem_of_mem_take (List.mem_filter.mp (isR_mem.mp he)).1)).1
        have hlen : (isR (σ0 81) ((L.take s).filter (sH TM L pf p))).length < 24 := by
          rw [isR_len]
          have h1 := List.length_filter_le (sH TM L pf p) (L.take s)
          have h2 : (L.take s).length ≤ s := by rw [List.length_take]; omega
          omega
        refine m_joins hGs hM hHs.1 hb hlen (fun τ hM2 => ?_)
        dsimp only [Option.toList_none, List.nil_append]
        refine r_150_31 (k := ?_)
        rw [Zadd_nat (by omega)]
        refine ih (s + 1) τ (by omega) (by omega) ?_
        have e81 : σs 81 = σ0 81 := funext fun j => hX.1 81 j (by decide) (by omega)
        rw [etk, List.filter_append, List.filter_cons, if_pos (by rw [esH]; exact c2), List.filter_nil, isR_snoc]
        rw [e81] at hM2
        exact hM2
      · dsimp only [Option.toList_some, List.cons_append, List.nil_append]
        refine r_150_18 (ht := fun _ => ?_) (hf := fun c => absurd rfl c)
        refine r_150_31 (k := ?_)
        rw [Zadd_nat (by omega)]
        refine ih (s + 1) σ (by omega) (by omega) ?_
        rw [etk, List.filter_append, List.filter_cons, if_neg (by rw [esH]; exact c2), List.filter_nil, List.append_nil]
        exact hM
theorem m_collects {d : Nat} {n : Nat} {Q : Pst} {σ0 σ σs : Mem} {L pf : List Int} {TM : Nat → List Tm} {P : Nat} {p x : Int} {B : Bst} (hC : CM σ0 L TM P) (hX : QX σ0 σs L.length pf x B) (hv : vld TM pf) (hl : pf.length = L.length) (hp : ¬ p = -1) (hM : ∀ c j, ¬ c = 97 → ¬ (c = 69 ∧ j = 33) → σ c j = σs c j) (k : ∀ τ, MN σs τ (liP TM L (σ0 81) pf p) → Q none τ n) : EVM (d + 1) 150 [(22, 69), (0, p), (0, (L.length : Int))] σ n Q := by
  show EV (d + 1) 150 0 [(22, 69), (0, p), (0, (L.length : Int)), (9, 0)] [] σ n Q
  refine r_150_0 (k := ?_)
  exact l_coll hC hX hv hl hp k (L.length + 1) 0 _ (by omega) (by omega) ⟨fun c j q1 q2 => by rw [wr_j q2]; exact hM c j q1 q2, by rw [wr_same]; rfl, trivial⟩
/-- changes -/
theorem lev_sit {x : Int} {t : Tm} : lev x t = (if ¬ x = -1 ∧ ¬ sitA t x = true then 1 else 0) := by
  unfold lev
  by_cases h1 : x = -1
  · rw [if_neg (fun z => z.1 h1), if_neg (fun z => z.1 h1)]
  · by_cases h2 : sitA t x = true
    · have h3 : t.1 = x ∨ t.2.1 = x := of_decide_eq_true h2
      rw [if_neg (fun z => by rcases h3 with h3 | h3 <;> omega), if_neg (fun z => z.2 h2)]
    · have h3 : ¬ (t.1 = x ∨ t.2.1 = x) := fun z => h2 (decide_eq_true z)
      rw [if_pos ⟨h1, fun z => h3 (Or.inl z.symm), fun z => h3 (Or.inr z.symm)⟩, if_pos ⟨h1, h2⟩]
def chN (σ0 : Mem) (L pf : List Int) (TM : Nat → List Tm) : Nat → Int := sumN (fun s => lev (σ0 87 (L.getD s.toNat 0)) (tmA TM pf s.toNat) + lev (σ0 88 (L.getD s.toNat 0)) (tmA TM pf s.toNat))
theorem l_chg {d : Nat} {n : Nat} {Q : Pst} {σ0 σ : Mem} {L pf : List Int} {TM : Nat → List Tm} {P : Nat} {x : Int} {B : Bst} (hC : CM σ0 L TM P) (hX : QX σ0 σ L.length pf x B) (hv : vld TM pf) (hl : pf.length = L.length) (k : Q (some (0, chN σ0 L pf TM L.length)) σ n) : ∀ (f s : Nat) (l3 : AV), s ≤ L.length → L.length - s < f → EV (d + 1) 152 4 [(22, 69), (0, chN σ0 L pf TM s), (0, (s : Int)), l3] [] σ n Q := by
  have hC0 := hC
  obtain ⟨hG0, h4, h28, h94, hH, hd, hT, hl20, htv, hPp, hho, hW, hr⟩ := hC
  have hG := hX.GR hG0
  have e28 : σ 69 28 = (L.length : Int) := by rw [hX.1 69 28 (by decide) (by decide)]; exact h28
  have hb : ∀ s : Nat, 0 ≤ chN σ0 L pf TM s ∧ chN σ0 L pf TM s ≤ 2 * s := fun s => by
    induction s with
    | zero => exact ⟨Int.le_refl 0, Int.le_refl 0⟩
    | succ s ih =>
      have h1 := @lev_b (σ0 87 (L.getD ((s : Int).toNat) 0)) (tmA TM pf ((s : Int).toNat))
      have h2 := @lev_b (σ0 88 (L.getD ((s : Int).toNat) 0)) (tmA TM pf ((s : Int).toNat))
      have e : chN σ0 L pf TM (s + 1) = chN σ0 L pf TM s + (lev (σ0 87 (L.getD ((s : Int).toNat) 0)) (tmA TM pf ((s : Int).toNat)) + lev (σ0 88 (L.getD ((s : Int).toNat) 0)) (tmA TM pf ((s : Int).toNat))) := rfl
      omega
  intro f
  induction f with
  | zero => intros; exfalso; omega
  | succ f ih =>
    intro s l3 hs hk
    refine r_152_4 (ht := fun c => ?_) (hf := fun c => ?_)
    · rw [show L.length = s by omega] at k
      exact r_152_89 (k := k)
    · have hsl : s < L.length := by omega
      have hx := List.getElem?_eq_getElem hsl
      have ed : L.getD s 0 = L[s] := by rw [List.getD_eq_getElem?_getD, hx]; rfl
      have e94 : σ 94 (s : Int) = L[s] := by rw [hX.1 94 _ (by decide) (by omega), h94 s hsl, ed]
      have hHs := (hH _ (List.getElem_mem hsl)).1
      have e87 : σ 87 L[s] = σ0 87 L[s] := hX.1 87 _ (by decide) (by omega)
      have e88 : σ 88 L[s] = σ0 88 L[s] := hX.1 88 _ (by decide) (by omega)
      have es : chN σ0 L pf TM (s + 1) = chN σ0 L pf TM s + (lev (σ0 87 L[s]) (tmA TM pf s) + lev (σ0 88 L[s]) (tmA TM pf s)) := by
        show chN σ0 L pf TM s + (lev (σ0 87 (L.getD ((s : Int).toNat) 0)) (tmA TM pf ((s : Int).toNat)) + lev (σ0 88 (L.getD ((s : Int).toNat) 0)) (tmA TM pf ((s : Int).toNat))) = _
        rw [Int.toNat_natCast, ed]
      have hbs := hb s
      have sit : ∀ p, ¬ p = -1 → ∀ {Q2 : Pst}, (sitA (tmA TM pf s) p = true → Q2 (some (0, 1)) σ n) → (¬ sitA (tmA TM pf s) p = true → Q2 (some (0, 0)) σ n) → EVM d 149 [(22, 69), (0, (s : Int)), (0, p)] σ n Q2 := fun p hp Q2 a1 a2 => m_sits hC0 hG (fun c j b1 b2 => hX.1 c j (by omega) (by omega)) (hX.2.2.1 s (by omega)) (hv s (by omega)) hsl hp a1 a2
      -- the second seat
      have two : ∀ (x1 v : Int), (0 ≤ v ∧ v ≤ 100) → v + lev (σ0 88 L[s]) (tmA TM pf s) = chN σ0 L pf TM (s + 1) → ((σ 88 L[s] = -1 → EV (d + 1) 152 80 [(22, 69), (0, x1), (0, (s : Int)), (0, L[s])] [(0, v)] σ n Q) ∧ (¬ σ 88 L[s] = -1 → EV (d + 1) 152 62 [(22, 69), (0, x1), (0, (s : Int)), (0, L[s])] [(0, v)] σ n Q)) := fun x1 v hvb hve => by
        have z0 : lev (σ0 88 L[s]) (tmA TM pf s) = 0 → EV (d + 1) 152 80 [(22, 69), (0, x1), (0, (s : Int)), (0, L[s])] [(0, v)] σ n Q := fun h => by
          refine r_152_80 (k := ?_)
          rw [Zadd_eq (b := 0) (by omega) (by omega), Zadd_nat (by omega), show v + 0 = chN σ0 L pf TM (s + 1) by omega]
          exact ih (s + 1) _ (by omega) (by omega)
        constructor
        · intro h
          refine z0 ?_
          rw [lev_sit, if_neg (fun z => z.1 (by rw [← e88]; exact h))]
        · intro h
          refine r_152_62 (hG := hG) (h0 := hHs) (k := ?_)
          refine sit _ h (fun c2 => ?_) (fun c2 => ?_)
          · dsimp only [Option.toList_some, List.cons_append, List.nil_append]
            refine r_152_73 (ht := fun _ => ?_) (hf := fun c => absurd c (by decide))
            refine z0 ?_
            rw [lev_sit, if_neg (fun z => z.2 (by rw [← e88]; exact c2))]
          · dsimp only [Option.toList_some, List.cons_append, List.nil_append]
            refine r_152_73 (ht := fun c => absurd rfl c) (hf := fun _ => ?_)
            refine r_152_76 (k := ?_)
            have l1 : lev (σ0 88 L[s]) (tmA TM pf s) = 1 := by rw [lev_sit, if_pos ⟨by rw [← e88]; exact h, by rw [← e88]; exact c2⟩]
            rw [Zadd_eq (a := v) (by omega) (by omega), Zadd_nat (by omega), show v + 1 = chN σ0 L pf TM (s + 1) by omega]
            exact ih (s + 1) _ (by omega) (by omega)
      have one0 : lev (σ0 87 L[s]) (tmA TM pf s) = 0 → EV (d + 1) 152 48 [(22, 69), (0, chN σ0 L pf TM s), (0, (s : Int)), (0, L[s])] [(0, chN σ0 L pf TM s)] σ n Q := fun h => by
        have q := two (chN σ0 L pf TM s) (chN σ0 L pf TM s) (by omega) (by omega)
        have z : Zadd (chN σ0 L pf TM s) 0 = chN σ0 L pf TM s := by rw [Zadd_eq (by omega) (by omega)]; omega
        refine r_152_48 (hG := hG) (h0 := hHs) (ht := fun c => ?_) (hf := fun c => ?_)
        · rw [z]; exact q.1 c
        · rw [z]; exact q.2 c
      refine r_152_12 (hG := hG) (h0 := by omega) (h1 := by rw [e94]; exact hHs) (ht := fun c2 => ?_) (hf := fun c2 => ?_)
      · rw [e94] at c2 ⊢
        exact one0 (by rw [lev_sit, if_neg (fun z => z.1 (by rw [← e87]; exact c2))])
      · rw [e94] at c2 ⊢
        refine r_152_30 (hG := hG) (h0 := hHs) (k := ?_)
        refine sit _ c2 (fun c3 => ?_) (fun c3 => ?_)
        · dsimp only [Option.toList_some, List.cons_append, List.nil_append]
          refine r_152_41 (ht := fun _ => ?_) (hf := fun c => absurd c (by decide))
          exact one0 (by rw [lev_sit, if_neg (fun z => z.2 (by rw [← e87]; exact c3))])
        · dsimp only [Option.toList_some, List.cons_append, List.nil_append]
          refine r_152_41 (ht := fun c => absurd rfl c) (hf := fun _ => ?_)
          have l1 : lev (σ0 87 L[s]) (tmA TM pf s) = 1 := by rw [lev_sit, if_pos ⟨by rw [← e87]; exact c2, by rw [← e87]; exact c3⟩]
          have q := two (chN σ0 L pf TM s + 1) (chN σ0 L pf TM s + 1) (by omega) (by omega)
          have z : Zadd (chN σ0 L pf TM s) 1 = chN σ0 L pf TM s + 1 := Zadd_eq (by omega) (by omega)
          refine r_152_44 (hG := hG) (h0 := hHs) (ht := fun c => ?_) (hf := fun c => ?_)
          · rw [z]; exact q.1 c
          · rw [z]; exact q.2 c
def cstM (σ0 : Mem) (L : List Int) (TM : Nat → List Tm) (P : Nat) : Cst := cst P TM L (σ0 81) (alM σ0) (fun p l => if l = [] then 0 else trT (wyM σ0) (σ0 83) (σ0 72 p) l) (fun s => σ0 87 (L.getD s 0)) (fun s => σ0 88 (L.getD s 0))
theorem chN_eq {σ0 : Mem} {L pf : List Int} {TM : Nat → List Tm} {P : Nat} (hl : pf.length = L.length) : chN σ0 L pf TM L.length = (cstM σ0 L TM P).2.2.1 pf := by
  show chN σ0 L pf TM L.length = smL (fun s x => lev (σ0 87 (L.getD s 0)) ((TM s).getD x.toNat (-1, -1, -1)) + lev (σ0 88 (L.getD s 0)) ((TM s).getD x.toNat (-1, -1, -1))) pf
  unfold smL chN
  rw [hl]
  exact sumN_congr (fun s hs => by
    show lev (σ0 87 (L.getD ((s : Int).toNat) 0)) (tmA TM pf ((s : Int).toNat)) + lev (σ0 88 (L.getD ((s : Int).toNat) 0)) (tmA TM pf ((s : Int).toNat)) = lev (σ0 87 (L.getD ((s : Int).toNat) 0)) ((TM ((s : Int).toNat)).getD (pf.getD ((s : Int).toNat) 0).toNat (-1, -1, -1)) + lev (σ0 88 (L.getD ((s : Int).toNat) 0)) ((TM ((s : Int).toNat)).getD (pf.getD ((s : Int).toNat) 0).toNat (-1, -1, -1))
    rfl)
theorem m_changes {d : Nat} {n : Nat} {Q : Pst} {σ0 σ : Mem} {L pf : List Int} {TM : Nat → List Tm} {P : Nat} {x : Int} {B : Bst} (hC : CM σ0 L TM P) (hX : QX σ0 σ L.length pf x B) (hv : vld TM pf) (hl : pf.length = L.length) (k : Q (some (0, (cstM σ0 L TM P).2.2.1 pf)) σ n) : EVM (d + 1) 152 [(22, 69)] σ n Q := by
  show EV (d + 1) 152 0 [(22, 69), (9, 0), (9, 0), (9, 0)] [] σ n Q
  refine r_152_0 (k := ?_)
  rw [← chN_eq hl] at k
  exact l_chg hC hX hv hl k (L.length + 1) 0 _ (by omega) (by omega)
