/-! the sheet of a day: the class -/
set_option maxHeartbeats 2000000 in
theorem s_shget {d : Nat} {σ : Mem} {n : Nat} {Q : Pst} {x : Int} (hG : GR σ) (hv : 0 ≤ x ∧ x < σ 21 2 ∧ x < 4 → Q (some (13, σ 22 x)) σ n) (hn : ¬ (0 ≤ x ∧ x < σ 21 2 ∧ x < 4) → Q (some (13, -1)) σ n) : EVM d 3 [(10, 21), (0, x)] σ n Q := by
  show EV d 3 0 [(10, 21), (0, x)] [] σ n Q
  refine r_3_0  (ht := fun c => ?_) (hf := fun c => ?_)
  · skip
    refine r_3_26  (k := ?_)
    (first | exact hv (by omega) | exact hn (by omega))
  · skip
    refine r_3_4  (ht := fun c => ?_) (hf := fun c => ?_)
    · skip
      refine r_3_26  (k := ?_)
      (first | exact hv (by omega) | exact hn (by omega))
    · skip
      refine r_3_12  (ht := fun c => ?_) (hf := fun c => ?_)
      · skip
        refine r_3_26  (k := ?_)
        (first | exact hv (by omega) | exact hn (by omega))
      · skip
        refine r_3_17 (hG := hG) (h0 := (by first | omega | (simp (disch := omega) only [Zadd_eq, Zsub_eq, Zmul_eq]; omega))) (k := ?_)
        (first | exact hv (by omega) | exact hn (by omega))
set_option maxHeartbeats 2000000 in
theorem GR.fr23 {σ τ : Mem} (h : GR σ) (hf : ∀ c j, ¬ c = 23 → τ c j = σ c j) : GR τ := GR.fr (fun c _ => decide (c = 23)) h (fun c j q => hf c j (by simpa using q)) (by decide)
theorem l_place {d : Nat} {n : Nat} {Q : Pst} {σ0 : Mem} {b : Int} (hG0 : GR σ0) : ∀ (lo hi : List Int) (l4 : AV) (σ : Mem), (∀ c j, ¬ c = 23 → σ c j = σ0 c j) → RVs σ 23 lo → (∀ v, RVs (wrM σ 23 (lo.length : Int) v) 23 (hi ++ v :: lo)) → (∀ e ∈ lo, 0 ≤ e ∧ e < σ0 21 2 ∧ e < 4 ∧ 114 ≤ σ0 22 e) → lo.length < 4 → (∀ τ, (∀ c j, ¬ c = 23 → τ c j = σ0 c j) → RVs τ 23 (hi ++ insR (fun e => σ0 (σ0 22 e) 6) b (σ0 21 2) lo) → Q none τ n) → EV (d + 1) 2 12 [(10, 21), (0, b), (0, (lo.length : Int)), (0, (lo.length : Int) - 1), l4] [] σ n Q := by
  intro lo
  induction lo with
  | nil =>
    intro hi l4 σ hf hr hv _ _ hq
    have e21 := hf 21 2 (by decide)
    refine r_2_12 (ht := fun c => ?_) (hf := fun c => by exfalso; simp at c)
    refine r_2_67 (hG := hG0.fr23 hf) (h0 := by simp) (k := ?_)
    refine hq _ (fun c j q => by rw [wr_ne q]; exact hf c j q) ?_
    have := hv (σ 21 2)
    rw [e21] at this
    rw [e21]
    exact this
  | cons e l ih =>
    intro hi l4 σ hf hr hv he hl hq
    have e21 := hf 21 2 (by decide)
    have el : (((e :: l).length : Nat) : Int) = (l.length : Int) + 1 := by simp
    have hl2 : l.length + 1 < 4 := by simpa using hl
    have he1 := he e List.mem_cons_self
    have hre : σ 23 (l.length : Int) = e := hr.1
    have hG := hG0.fr23 hf
    have e22 := hf 22 e (by decide)
    have fin : RVs (wrM σ 23 ((e :: l).length : Int) (σ 21 2)) 23 (hi ++ σ0 21 2 :: e :: l) := by
      have := hv (σ 21 2)
      rw [e21] at this
      rw [e21]
      exact this
    rw [show (((e :: l).length : Nat) : Int) - 1 = (l.length : Int) by omega]
    refine r_2_12 (ht := fun c => by exfalso; omega) (hf := fun c => ?_)
    refine r_2_16 (hG := hG) (h0 := by omega) (k := ?_)
    rw [hre]
    refine s_shget hG (fun c2 => ?_) (fun c2 => by exfalso; omega)
    dsimp only [Option.toList_some, List.cons_append, List.nil_append]
    refine r_2_26 (ht := fun c3 => by exfalso; omega) (hf := fun c3 => ?_)
    have e6 : σ (σ 22 e) 6 = σ0 (σ0 22 e) 6 := by rw [e22]; exact hf _ _ (by omega)
    refine r_2_33 (h0 := c3) (ht := fun c4 => ?_) (hf := fun c4 => ?_)
    · refine r_2_45 (hG := hG) (h0 := by omega) (h1 := by rw [Zadd_eq (by omega) (by omega)]; omega) (k := ?_)
      rw [Zadd_eq (by omega) (by omega), Zadd_eq (by omega) (by omega), hre, show (l.length : Int) + -1 = (l.length : Int) - 1 by omega]
      have hf2 : ∀ c j, ¬ c = 23 → wrM σ 23 ((l.length : Int) + 1) e c j = σ0 c j := fun c j q => by rw [wr_ne q]; exact hf c j q
      refine ih (hi ++ [e]) _ _ hf2 (RVs_fr l hr.2 (fun j h0 h1 => wr_nej (by omega))) (fun v => ?_) (fun y hy => he y (List.mem_cons_of_mem _ hy)) (by omega) (fun τ g1 g2 => hq τ g1 ?_)
      · have q := hv e
        rw [el] at q
        have q2 := RVs_upd (v := v) (w := e) (l := l) (hi ++ [e]) (by simpa using q)
        exact q2
      · rw [insR_c, if_pos (by rw [← e6]; exact c4)]
        simpa using g2
    · refine r_2_42 (hG := hG) (h0 := by omega) (k := ?_)
      refine hq _ (fun c j q => by rw [wr_ne q]; exact hf c j q) ?_
      rw [insR_c, if_neg (by rw [← e6]; omega)]
      exact fin
theorem s_place {d : Nat} {σ : Mem} {n : Nat} {Q : Pst} {b : Int} {rv : List Int} (hG : GR σ) (hs : σ 21 2 = (rv.length : Int)) (hl : rv.length < 4) (hr : RVs σ 23 rv) (he : ∀ e ∈ rv, 0 ≤ e ∧ e < σ 21 2 ∧ 114 ≤ σ 22 e) (k : ∀ τ, (∀ c j, ¬ c = 23 → τ c j = σ c j) → RVs τ 23 (insR (fun e => σ (σ 22 e) 6) b (σ 21 2) rv) → Q none τ n) : EVM (d + 1) 2 [(10, 21), (0, b)] σ n Q := by
  show EV (d + 1) 2 0 [(10, 21), (0, b), (9, 0), (9, 0), (9, 0)] [] σ n Q
  refine r_2_0 (k := ?_)
  rw [hs, Zsub_eq (by omega) (by omega)]
  refine l_place hG rv [] _ σ (fun _ _ _ => rfl) hr (fun v => ?_) (fun e h => by have := he e h; omega) hl (fun τ g1 g2 => k τ g1 ?_)
  · exact RVs_push hr
  · exact g2
def lvC (σ : Mem) (y i : Int) : Bool := decide (σ (114 + i) 5 = y ∧ σ (114 + i) 7 = 0)
def hO (σ : Mem) (e : Int) : Int := σ 22 e - 114
/-- the sheet holds the hearings L, by their begins in the order rv -/
def SH (σ : Mem) (L rv : List Int) : Prop := σ 21 2 = (L.length : Int) ∧ L.length ≤ 4 ∧ (∀ (i : Nat) (h : Int), L[i]? = some h → σ 22 (i : Int) = 114 + h) ∧ RVs σ 23 rv ∧ rv.length = L.length ∧ (∀ e ∈ rv, 0 ≤ e ∧ e < (L.length : Int))
theorem SH.at {σ : Mem} {L rv : List Int} (h : SH σ L rv) {e : Int} (he : e ∈ rv) : ∃ x, x ∈ L ∧ L[e.toNat]? = some x ∧ σ 22 e = 114 + x ∧ hO σ e = x := by
  have q := h.2.2.2.2.2 e he
  have q2 : e.toNat < L.length := by omega
  refine ⟨L[e.toNat], List.getElem_mem q2, List.getElem?_eq_getElem q2, ?_⟩
  have q3 := h.2.2.1 e.toNat _ (List.getElem?_eq_getElem q2)
  rw [show ((e.toNat : Nat) : Int) = e by omega] at q3
  exact ⟨q3, by unfold hO; omega⟩
theorem DK.fr {σ τ : Mem} (h : DK σ) (h14 : τ 14 1 = σ 14 1) (h15 : ∀ i, τ 15 i = σ 15 i) : DK τ := by
  unfold DK; rw [h14]; exact ⟨h.1, h.2.1, fun i a b => by rw [h15]; exact h.2.2 i a b⟩
theorem GR.frS {σ τ : Mem} (h : GR σ) (hf : ∀ c j, ¬ (c = 21 ∧ j = 2) → ¬ c = 22 → ¬ c = 23 → τ c j = σ c j) : GR τ := GR.fr (fun c j => (decide (c = 21) && decide (j = 2)) || (decide (c = 22) || decide (c = 23))) h (fun c j q => hf c j (fun z => by simp [z.1, z.2] at q) (fun z => by simp [z] at q) (fun z => by simp [z] at q)) (by decide)
theorem l_gath {d : Nat} {n : Nat} {Q : Pst} {σ0 : Mem} {y : Int} (hG0 : GR σ0) (hD0 : DK σ0) (h4 : (dlN (lvC σ0 y) (σ0 14 1).toNat).length ≤ 4) : ∀ (k j : Nat) (rv : List Int) (l4 : AV) (σ : Mem), (∀ c i, ¬ (c = 21 ∧ i = 2) → ¬ c = 22 → ¬ c = 23 → σ c i = σ0 c i) → SH σ (dlN (lvC σ0 y) j) rv → rv.map (hO σ) = isR (fun h => σ0 (114 + h) 6) (dlN (lvC σ0 y) j) → (j : Int) ≤ σ0 14 1 → σ0 14 1 - j < k → (∀ τ rv, (∀ c i, ¬ (c = 21 ∧ i = 2) → ¬ c = 22 → ¬ c = 23 → τ c i = σ0 c i) → SH τ (dlN (lvC σ0 y) (σ0 14 1).toNat) rv → rv.map (hO τ) = isR (fun h => σ0 (114 + h) 6) (dlN (lvC σ0 y) (σ0 14 1).toNat) → Q none τ n) → EV (d + 2) 1 7 [(10, 21), (11, 14), (0, y), (0, (j : Int)), l4] [] σ n Q := by
  intro k
  induction k with
  | zero => intros; exfalso; omega
  | succ k ih =>
    intro j rv l4 σ hf hS hm hj hk hq
    have e14 := hf 14 1 (by decide) (by decide) (by decide)
    have hG := hG0.frS hf
    have hD := hD0.fr e14 (fun i => hf 15 i (by omega) (by decide) (by decide))
    have hD2 := hD0.2.1
    have eH : ∀ i, σ (114 + (j : Int)) i = σ0 (114 + (j : Int)) i := fun i => hf _ i (by omega) (by omega) (by omega)
    refine r_1_7 (ht := fun c => ?_) (hf := fun c => ?_)
    · refine r_1_88 (k := ?_)
      have ej : (σ0 14 1).toNat = j := by omega
      rw [ej] at hq
      exact hq σ rv hf hS hm
    · have skip : ¬ lvC σ0 y j = true → ∀ l, EV (d + 2) 1 7 [(10, 21), (11, 14), (0, y), (0, Zadd (j : Int) 1), l] [] σ n Q := fun hc l => by
        rw [Zadd_nat (by omega)]
        have e : dlN (lvC σ0 y) (j + 1) = dlN (lvC σ0 y) j := by rw [dlN_s, if_neg hc, List.append_nil]
        exact ih (j + 1) rv l σ hf (by rw [e]; exact hS) (by rw [e]; exact hm) (by omega) (by omega) hq
      refine r_1_15 (k := ?_)
      refine s_dget hG hD (fun c2 => ?_) (fun c2 => by exfalso; omega)
      dsimp only [Option.toList_some, List.cons_append, List.nil_append]
      refine r_1_20 (ht := fun c3 => by exfalso; omega) (hf := fun c3 => ?_)
      refine r_1_27 (h0 := c3) (ht := fun c4 => ?_) (hf := fun c4 => ?_)
      · refine r_1_82 (k := ?_)
        refine skip (fun z => ?_) _
        have := of_decide_eq_true z
        rw [eH] at c4
        exact c4 this.1
      · refine r_1_36 (h0 := c3) (ht := fun c5 => ?_) (hf := fun c5 => ?_)
        · refine r_1_82 (k := ?_)
          refine skip (fun z => ?_) _
          have := of_decide_eq_true z
          rw [eH] at c5
          exact c5 this.2
        · have hlv : lvC σ0 y j = true := decide_eq_true (by rw [← eH, ← eH]; exact ⟨c4, c5⟩)
          have e1 : dlN (lvC σ0 y) (j + 1) = dlN (lvC σ0 y) j ++ [(j : Int)] := by rw [dlN_s, if_pos hlv]
          have hl := dlN_mono (p := lvC σ0 y) (j := j + 1) (k := (σ0 14 1).toNat) (by omega)
          rw [e1, List.length_append] at hl
          simp only [List.length_cons, List.length_nil] at hl
          obtain ⟨s1, s2, s3, s4, s5, s6⟩ := hS
          refine r_1_44 (ht := fun c6 => by exfalso; omega) (hf := fun c6 => ?_)
          refine r_1_52 (hG := hG) (h0 := c3) (h1 := by omega) (k := ?_)
          have hf1 : ∀ c i, ¬ c = 22 → wrM σ 22 (σ 21 2) (114 + (j : Int)) c i = σ c i := fun c i q => wr_ne q
          have eb : wrM σ 22 (σ 21 2) (114 + (j : Int)) (114 + (j : Int)) 6 = σ0 (114 + (j : Int)) 6 := by rw [hf1 _ _ (by omega)]; exact eH 6
          rw [eb]
          have e22 : ∀ e, e ∈ rv → wrM σ 22 (σ 21 2) (114 + (j : Int)) 22 e = σ 22 e := fun e he => by
            have := s6 e he
            exact wr_nej (by omega)
          refine s_place (rv := rv) (GR.wrk hG (by decide)) (by rw [hf1 _ _ (by decide)]; omega) (by omega) (RVs_fr rv s4 (fun i _ _ => hf1 23 i (by decide))) (fun e he => ?_) (fun τ g1 g2 => ?_)
          · have q1 := s6 e he
            obtain ⟨x, hx1, hx2, hx3, hx4⟩ := SH.at ⟨s1, s2, s3, s4, s5, s6⟩ he
            have q2 := dlN_b j x hx1
            rw [hf1 _ _ (by decide), e22 e he]
            omega
          · dsimp only [Option.toList_none, List.nil_append]
            refine r_1_72 (k := ?_)
            have t21 : τ 21 2 = σ 21 2 := by rw [g1 _ _ (by decide), hf1 _ _ (by decide)]
            rw [Zadd_nat (by omega), t21, Zadd_eq (by omega) (by omega)]
            have o22 : ∀ i, wrM τ 21 2 (σ 21 2 + 1) 22 i = wrM σ 22 (σ 21 2) (114 + (j : Int)) 22 i := fun i => by rw [wr_ne (by decide), g1 _ _ (by decide)]
            refine ih (j + 1) (insR (fun e => wrM σ 22 (σ 21 2) (114 + (j : Int)) (wrM σ 22 (σ 21 2) (114 + (j : Int)) 22 e) 6) (σ0 (114 + (j : Int)) 6) (σ 21 2) rv) _ _ (fun c i q1 q2 q3 => ?_) ⟨?_, ?_, ?_, ?_, ?_, ?_⟩ ?_ (by omega) (by omega) hq
            · rw [wr_if, if_neg q1, g1 c i q3, hf1 c i q2]; exact hf c i q1 q2 q3
            · rw [wr_same, e1, List.length_append, s1]; simp
            · rw [e1, List.length_append]; simp; omega
            · intro i h hi
              rw [o22]
              rw [e1] at hi
              by_cases q : i < (dlN (lvC σ0 y) j).length
              · rw [List.getElem?_append_left q] at hi
                rw [wr_nej (by omega)]
                exact s3 i h hi
              · rw [List.getElem?_append_right (by omega)] at hi
                have q2 : i - (dlN (lvC σ0 y) j).length = 0 := by
                  cases hq : i - (dlN (lvC σ0 y) j).length with
                  | zero => rfl
                  | succ m => rw [hq] at hi; simp at hi
                rw [q2] at hi
                have e2 : h = (j : Int) := by simpa using hi.symm
                rw [e2, wr_if, if_pos (by omega)]
            · refine RVs_fr _ ?_ (fun i _ _ => wr_ne (by decide))
              rw [hf1 _ _ (by decide)] at g2
              exact g2
            · rw [insR_len, e1, List.length_append, s5]; simp
            · intro e he
              rw [e1, List.length_append]
              simp only [List.length_cons, List.length_nil]
              rcases (insR_mem rv).mp he with q | q
              · omega
              · have := s6 e q; omega
            · have hg : rv.map (hO (wrM τ 21 2 (σ 21 2 + 1))) = rv.map (hO σ) := List.map_congr_left (fun e he => by unfold hO; rw [o22, e22 e he])
              have hj2 : hO (wrM τ 21 2 (σ 21 2 + 1)) (σ 21 2) = (j : Int) := by unfold hO; rw [o22, wr_same]; omega
              rw [e1, isR_snoc, insR_map (f' := fun h => σ0 (114 + h) 6) (g := hO (wrM τ 21 2 (σ 21 2 + 1))) rv (fun e he => ?_), hg, hm, hj2]
              obtain ⟨x, hx1, hx2, hx3, hx4⟩ := SH.at ⟨s1, s2, s3, s4, s5, s6⟩ he
              have q2 := dlN_b j x hx1
              have : hO (wrM τ 21 2 (σ 21 2 + 1)) e = x := by unfold hO; rw [o22, e22 e he]; omega
              rw [this, e22 e he, hx3, hf1 _ _ (by omega)]
              exact hf _ _ (by omega) (by omega) (by omega)
theorem s_gather {d : Nat} {σ : Mem} {n : Nat} {Q : Pst} {y : Int} (hG : GR σ) (hD : DK σ) (h4 : (dlN (lvC σ y) (σ 14 1).toNat).length ≤ 4) (k : ∀ τ rv, (∀ c i, ¬ (c = 21 ∧ i = 2) → ¬ c = 22 → ¬ c = 23 → τ c i = σ c i) → SH τ (dlN (lvC σ y) (σ 14 1).toNat) rv → rv.map (hO τ) = isR (fun h => σ (114 + h) 6) (dlN (lvC σ y) (σ 14 1).toNat) → Q none τ n) : EVM (d + 2) 1 [(10, 21), (11, 14), (0, y)] σ n Q := by
  show EV (d + 2) 1 0 [(10, 21), (11, 14), (0, y), (9, 0), (9, 0)] [] σ n Q
  have hD1 := hD.1
  refine r_1_0 (k := ?_)
  exact l_gath hG hD h4 ((σ 14 1).toNat + 1) 0 [] _ _ (fun c i q1 q2 q3 => by rw [wr_if, if_neg q1]) ⟨by rw [wr_same]; rfl, Nat.zero_le 4, fun i h hi => by simp [dlN] at hi, trivial, rfl, fun e he => absurd he List.not_mem_nil⟩ rfl (by omega) (by omega) k
/-- ways and gaps -/
def wyC (σ : Mem) (a b : Int) : Int := if (0 ≤ a ∧ a ≤ 5) ∧ (0 ≤ b ∧ b ≤ 5) then σ 2 (a * 6 + b) else 0
def WV (σ : Mem) : Prop := ∀ j, 0 ≤ j → j < 36 → 0 ≤ σ 2 j ∧ σ 2 j ≤ 300
theorem wyC_b {σ : Mem} (h : WV σ) (a b : Int) : 0 ≤ wyC σ a b ∧ wyC σ a b ≤ 300 := by
  unfold wyC
  split
  · exact h _ (by omega) (by omega)
  · omega
def alC (σ : Mem) (a b : Int) : Bool := decide (σ 1 1 ≤ σ (114 + b) 6 - (σ (114 + a) 6 + σ (114 + a) 1) ∧ wyC σ (σ (114 + a) 2) (σ (114 + b) 2) ≤ σ (114 + b) 6 - (σ (114 + a) 6 + σ (114 + a) 1))
set_option maxHeartbeats 2000000 in
theorem s_betw2 {d : Nat} {σ : Mem} {n : Nat} {Q : Pst} {x y : Int} (hG : GR σ) (k : ∀ v, v = (wyC σ x y : Int) → Q (some (0, v)) σ n) : EVM (d + 2) 82 [(20, 1), (0, x), (0, y)] σ n Q := by
  show EV (d + 2) 82 0 [(20, 1), (0, x), (0, y)] [] σ n Q
  refine r_82_0  (k := ?_)
  refine s_isTown (fun c => ?_) (fun c => ?_)
  · dsimp only [Option.toList_some, List.cons_append, List.nil_append]
    refine r_82_4  (ht := fun c => absurd c (by decide)) (hf := fun _ => ?_)
    refine r_82_7  (k := ?_)
    refine s_isTown (fun c => ?_) (fun c => ?_)
    · dsimp only [Option.toList_some, List.cons_append, List.nil_append]
      refine r_82_11  (ht := fun c => absurd c (by decide)) (hf := fun _ => ?_)
      refine r_82_14 (hG := hG) (h0 := (by first | omega | (simp (disch := omega) only [Zadd_eq, Zsub_eq, Zmul_eq]; omega))) (k := ?_)
      exact k _ (by unfold wyC; first | (rw [if_pos (by omega)]; simp (disch := omega) only [Zadd_eq, Zmul_eq]; done) | (rw [if_neg (by omega)]))
    · dsimp only [Option.toList_some, List.cons_append, List.nil_append]
      refine r_82_11  (ht := fun _ => ?_) (hf := fun c => absurd c (by decide))
      refine r_82_28  (k := ?_)
      exact k _ (by unfold wyC; first | (rw [if_pos (by omega)]; simp (disch := omega) only [Zadd_eq, Zmul_eq]; done) | (rw [if_neg (by omega)]))
  · dsimp only [Option.toList_some, List.cons_append, List.nil_append]
    refine r_82_4  (ht := fun _ => ?_) (hf := fun c => absurd c (by decide))
    refine r_82_28  (k := ?_)
    exact k _ (by unfold wyC; first | (rw [if_pos (by omega)]; simp (disch := omega) only [Zadd_eq, Zmul_eq]; done) | (rw [if_neg (by omega)]))
/-- a hearing of the class -/
def HC (σ : Mem) (H : Int) : Prop := (0 ≤ σ H 0 ∧ σ H 0 ≤ 19) ∧ (10 ≤ σ H 1 ∧ σ H 1 ≤ 240) ∧ (0 ≤ σ H 2 ∧ σ H 2 ≤ 5) ∧ (1 ≤ σ H 3 ∧ σ H 3 ≤ 9) ∧ (1 ≤ σ H 4 ∧ σ H 4 ≤ 5) ∧ (0 ≤ σ H 5 ∧ σ H 5 ≤ 999) ∧ (0 ≤ σ H 6 ∧ σ H 6 + σ H 1 ≤ 1440)
set_option maxHeartbeats 2000000 in
theorem s_allows {d : Nat} {σ : Mem} {n : Nat} {Q : Pst} {a b : Int} (hG : GR σ) (hA : HC σ (114 + a)) (hB : HC σ (114 + b)) (h0 : 0 ≤ a) (h1 : 0 ≤ b) (ht : alC σ a b = true → Q (some (0, 1)) σ n) (hf : ¬ (alC σ a b = true) → Q (some (0, 0)) σ n) : EVM (d + 3) 84 [(20, 1), (13, 114 + a), (13, 114 + b)] σ n Q := by
  show EV (d + 3) 84 0 [(20, 1), (13, 114 + a), (13, 114 + b), (9, 0)] [] σ n Q
  refine r_84_0 (h0 := (by first | omega | (simp (disch := omega) only [Zadd_eq, Zsub_eq, Zmul_eq]; omega))) (h1 := (by first | omega | (simp (disch := omega) only [Zadd_eq, Zsub_eq, Zmul_eq]; omega))) (ht := fun c => ?_) (hf := fun c => ?_)
  · skip
    refine r_84_43  (k := ?_)
    have z1 := hA.2.1
    have z2 := hA.2.2.2.2.2.2
    have z3 := hB.2.1
    have z4 := hB.2.2.2.2.2.2
    have e1 : Zadd (σ (114 + a) 6) (σ (114 + a) 1) = σ (114 + a) 6 + σ (114 + a) 1 := Zadd_eq (by omega) (by omega)
    have e2 : Zsub (σ (114 + b) 6) (Zadd (σ (114 + a) 6) (σ (114 + a) 1)) = σ (114 + b) 6 - (σ (114 + a) 6 + σ (114 + a) 1) := by rw [e1]; exact Zsub_eq (by omega) (by omega)
    (first | exact ht (decide_eq_true (by rw [← ev]; omega)) | exact hf (fun z => by have z := of_decide_eq_true z; (try rw [← ev] at z); omega))
  · skip
    refine r_84_23 (h0 := (by first | omega | (simp (disch := omega) only [Zadd_eq, Zsub_eq, Zmul_eq]; omega))) (h1 := (by first | omega | (simp (disch := omega) only [Zadd_eq, Zsub_eq, Zmul_eq]; omega))) (k := ?_)
    refine s_betw2 hG (fun v ev => ?_)
    dsimp only [Option.toList_some, Option.toList_none, List.cons_append, List.nil_append]
    refine r_84_36  (ht := fun c => ?_) (hf := fun c => ?_)
    · skip
      refine r_84_43  (k := ?_)
      have z1 := hA.2.1
      have z2 := hA.2.2.2.2.2.2
      have z3 := hB.2.1
      have z4 := hB.2.2.2.2.2.2
      have e1 : Zadd (σ (114 + a) 6) (σ (114 + a) 1) = σ (114 + a) 6 + σ (114 + a) 1 := Zadd_eq (by omega) (by omega)
      have e2 : Zsub (σ (114 + b) 6) (Zadd (σ (114 + a) 6) (σ (114 + a) 1)) = σ (114 + b) 6 - (σ (114 + a) 6 + σ (114 + a) 1) := by rw [e1]; exact Zsub_eq (by omega) (by omega)
      (first | exact ht (decide_eq_true (by rw [← ev]; omega)) | exact hf (fun z => by have z := of_decide_eq_true z; (try rw [← ev] at z); omega))
    · skip
      refine r_84_39  (k := ?_)
      have z1 := hA.2.1
      have z2 := hA.2.2.2.2.2.2
      have z3 := hB.2.1
      have z4 := hB.2.2.2.2.2.2
      have e1 : Zadd (σ (114 + a) 6) (σ (114 + a) 1) = σ (114 + a) 6 + σ (114 + a) 1 := Zadd_eq (by omega) (by omega)
      have e2 : Zsub (σ (114 + b) 6) (Zadd (σ (114 + a) 6) (σ (114 + a) 1)) = σ (114 + b) 6 - (σ (114 + a) 6 + σ (114 + a) 1) := by rw [e1]; exact Zsub_eq (by omega) (by omega)
      (first | exact ht (decide_eq_true (by rw [← ev]; omega)) | exact hf (fun z => by have z := of_decide_eq_true z; (try rw [← ev] at z); omega))
set_option maxHeartbeats 2000000 in
theorem s_member {d : Nat} {σ : Mem} {n : Nat} {Q : Pst} {L rv : List Int} {m i : Nat} {e : Int} (hG : GR σ) (hS : SH σ L rv) (hm : m < 2147483648) (hi : i < 4) (he : σ 23 (i : Int) = e) (he2 : 0 ≤ e ∧ e < (L.length : Int)) (ht : m.testBit e.toNat = true → Q (some (13, σ 22 e)) σ n) (hf : ¬ m.testBit e.toNat = true → Q (some (13, -1)) σ n) : EVM (d + 1) 7 [(10, 21), (0, (i : Int)), (0, (m : Int))] σ n Q := by
  show EV (d + 1) 7 0 [(10, 21), (0, (i : Int)), (0, (m : Int)), (9, 0)] [] σ n Q
  have s1 := hS.1
  have s2 := hS.2.1
  have ee : e = ((e.toNat : Nat) : Int) := by omega
  have bt := Zbit (a := m) (k := e.toNat) hm (by omega)
  rw [← ee] at bt
  refine r_7_0 (hG := hG) (h0 := by omega) (ht := fun c => ?_) (hf := fun c => ?_)
  · rw [he] at c
    exact r_7_24 (k := hf (fun z => c (bt.mpr z)))
  · rw [he] at c
    rw [he]
    refine r_7_16 (k := ?_)
    refine s_shget hG (fun c2 => ?_) (fun c2 => by exfalso; omega)
    dsimp only [Option.toList_some, List.cons_append, List.nil_append]
    exact r_7_21 (k := ht (bt.mp c))
def hd0 (l : List Int) : Int := match l with
  | [] => -1
  | h :: _ => 114 + h
theorem hoR_app {ok : Int → Int → Bool} {l : List Int} (p : List Int) (h : hoR ok (p ++ l) = true) : hoR ok l = true := by
  induction p with
  | nil => exact h
  | cons e p ih => exact ih (hoR_t h)
theorem rA_len (h l : List Int) : (h.reverseAux l).length = h.length + l.length := by rw [List.reverseAux_eq, List.length_append, List.length_reverse]
theorem rA_mem {h l : List Int} {e : Int} (he : e ∈ l) : e ∈ h.reverseAux l := by rw [List.reverseAux_eq]; exact List.mem_append_right _ he
/-- the members of a set of places, as hearings -/
def mbL (σ : Mem) (m : Nat) (l : List Int) : List Int := (l.filter (fun e => m.testBit e.toNat)).map (hO σ)
theorem mbL_p {σ : Mem} {m : Nat} {e : Int} {l : List Int} (h : m.testBit e.toNat = true) : mbL σ m (e :: l) = hO σ e :: mbL σ m l := by unfold mbL; rw [List.filter_cons, if_pos h, List.map_cons]
theorem mbL_n {σ : Mem} {m : Nat} {e : Int} {l : List Int} (h : ¬ m.testBit e.toNat = true) : mbL σ m (e :: l) = mbL σ m l := by unfold mbL; rw [List.filter_cons, if_neg h]
theorem mbL_app {σ : Mem} {m : Nat} {p l : List Int} : mbL σ m (p ++ l) = mbL σ m p ++ mbL σ m l := by unfold mbL; rw [List.filter_append, List.map_append]
theorem l_shold {d : Nat} {σ : Mem} {n : Nat} {Q : Pst} {L rv : List Int} {m : Nat} (hG : GR σ) (hS : SH σ L rv) (hm : m < 2147483648) (hL : ∀ h ∈ L, 0 ≤ h ∧ HC σ (114 + h)) (ht : hoR (alC σ) (mbL σ m rv) = true → Q (some (0, 1)) σ n) (hf : ¬ hoR (alC σ) (mbL σ m rv) = true → Q (some (0, 0)) σ n) : ∀ (hi lo : List Int) (l5 : AV), hi.reverseAux lo = rv → hoR (alC σ) (mbL σ m lo) = true → EV (d + 4) 5 5 [(10, 21), (0, (m : Int)), (20, 1), (13, hd0 (mbL σ m lo)), (0, (lo.length : Int)), l5] [] σ n Q := by
  intro hi
  have s1 := hS.1
  have s2 := hS.2.1
  have s5 := hS.2.2.2.2.1
  induction hi with
  | nil =>
    intro lo l5 e ho
    have e : lo = rv := e
    subst e
    refine r_5_5 (ht := fun c => ?_) (hf := fun c => by exfalso; omega)
    exact r_5_59 (k := ht ho)
  | cons e hi ih =>
    intro lo l5 er ho
    have er : hi.reverseAux (e :: lo) = rv := er
    have hlen : hi.length + (lo.length + 1) = rv.length := by rw [← er, rA_len]; simp
    have hmem : e ∈ rv := by rw [← er]; exact rA_mem List.mem_cons_self
    have hrv : RVs σ 23 (hi.reverseAux (e :: lo)) := by rw [er]; exact hS.2.2.2.1
    have he := (RVs_aux hi _ hrv).1
    have he2 := hS.2.2.2.2.2 e hmem
    obtain ⟨x, hx1, hx2, hx3, hx4⟩ := hS.at hmem
    have hx := hL x hx1
    have el : (((e :: lo).length : Nat) : Int) = ((lo.length + 1 : Nat) : Int) := by simp
    refine r_5_5 (ht := fun c => by exfalso; omega) (hf := fun c => ?_)
    refine r_5_14 (ht := fun c => by exfalso; omega) (hf := fun c => ?_)
    refine r_5_20 (k := ?_)
    refine s_member hG hS hm (by omega) he he2 (fun c => ?_) (fun c => ?_)
    · dsimp only [Option.toList_some, List.cons_append, List.nil_append]
      rw [hx3]
      have em := mbL_p (σ := σ) (l := lo) c
      rw [hx4] at em
      have next : hoR (alC σ) (mbL σ m (e :: lo)) = true → ∀ l, EV (d + 4) 5 5 [(10, 21), (0, (m : Int)), (20, 1), (13, 114 + x), (0, Zadd (lo.length : Int) 1), l] [] σ n Q := fun h l => by
        rw [Zadd_nat (by omega), ← el]
        have q := ih (e :: lo) l er h
        rw [em] at q
        exact q
      refine r_5_27 (ht := fun c => by exfalso; omega) (hf := fun c => ?_)
      cases hml : mbL σ m lo with
      | nil =>
        refine r_5_34 (ht := fun _ => ?_) (hf := fun c => absurd c (by show ¬ (0 : Int) ≤ -1; decide))
        refine r_5_50 (k := next ?_ _)
        rw [em, hml]; rfl
      | cons a ml =>
        have ha : a ∈ mbL σ m lo := by rw [hml]; exact List.mem_cons_self
        unfold mbL at ha
        obtain ⟨e2, he21, he22⟩ := List.mem_map.mp ha
        have he23 := (List.mem_filter.mp he21).1
        obtain ⟨x2, hy1, hy2, hy3, hy4⟩ := hS.at (show e2 ∈ rv by rw [← er]; exact rA_mem (List.mem_cons_of_mem _ he23))
        have hxa : x2 = a := by rw [← hy4, he22]
        subst hxa
        have hxx := hL x2 hy1
        show EV (d + 4) 5 34 [(10, 21), (0, (m : Int)), (20, 1), (13, 114 + x2), (0, (lo.length : Int)), (13, 114 + x)] [] σ n Q
        refine r_5_34 (ht := fun c => by exfalso; omega) (hf := fun _ => ?_)
        refine r_5_38 (k := ?_)
        refine s_allows hG hxx.2 hx.2 hxx.1 hx.1 (fun c2 => ?_) (fun c2 => ?_)
        · dsimp only [Option.toList_some, List.cons_append, List.nil_append]
          refine r_5_45 (ht := fun _ => ?_) (hf := fun c => absurd c (by decide))
          refine r_5_50 (k := next ?_ _)
          rw [em, hml, hoR_c, c2, ← hml, ho]; rfl
        · dsimp only [Option.toList_some, List.cons_append, List.nil_append]
          refine r_5_45 (ht := fun c => absurd rfl c) (hf := fun _ => ?_)
          refine r_5_48 (k := hf (fun z => c2 ?_))
          rw [← er, List.reverseAux_eq, mbL_app] at z
          have z2 := hoR_app _ z
          rw [em, hml, hoR_c] at z2
          exact (Bool.and_eq_true _ _ ▸ z2).1
    · dsimp only [Option.toList_some, List.cons_append, List.nil_append]
      have em := mbL_n (σ := σ) (l := lo) c
      refine r_5_27 (ht := fun _ => ?_) (hf := fun c => by exfalso; omega)
      refine r_5_53 (k := ?_)
      rw [Zadd_nat (by omega), ← el]
      have q := ih (e :: lo) (13, -1) er (by rw [em]; exact ho)
      rw [em] at q
      exact q
theorem s_holds {d : Nat} {σ : Mem} {n : Nat} {Q : Pst} {L rv : List Int} {m : Nat} (hG : GR σ) (hS : SH σ L rv) (hm : m < 2147483648) (hL : ∀ h ∈ L, 0 ≤ h ∧ HC σ (114 + h)) (ht : hoR (alC σ) (mbL σ m rv) = true → Q (some (0, 1)) σ n) (hf : ¬ hoR (alC σ) (mbL σ m rv) = true → Q (some (0, 0)) σ n) : EVM (d + 4) 5 [(10, 21), (0, (m : Int)), (20, 1)] σ n Q := by
  show EV (d + 4) 5 0 [(10, 21), (0, (m : Int)), (20, 1), (9, 0), (9, 0), (9, 0)] [] σ n Q
  refine r_5_0 (k := ?_)
  exact l_shold hG hS hm hL ht hf rv.reverse [] _ (by rw [List.reverseAux_eq, List.reverse_reverse, List.append_nil]) rfl
theorem l_trip {d : Nat} {σ : Mem} {n : Nat} {Q : Pst} {L rv : List Int} {m : Nat} {home : Int} (hG : GR σ) (hS : SH σ L rv) (hW : WV σ) (hm : m < 2147483648) (hL : ∀ h ∈ L, 0 ≤ h) (k : ∀ v, v = trT (wyC σ) (fun h => σ (114 + h) 2) home (mbL σ m rv) → Q (some (0, v)) σ n) : ∀ (hi lo : List Int) (l7 : AV), hi.reverseAux lo = rv → EV (d + 3) 6 9 [(10, 21), (0, home), (0, (m : Int)), (20, 1), (0, (trR (wyC σ) (fun h => σ (114 + h) 2) home (mbL σ m lo)).1), (0, (trR (wyC σ) (fun h => σ (114 + h) 2) home (mbL σ m lo)).2), (0, (lo.length : Int)), l7] [] σ n Q := by
  intro hi
  have s1 := hS.1
  have s2 := hS.2.1
  have s5 := hS.2.2.2.2.1
  have mlen : ∀ l, (mbL σ m l).length ≤ l.length := fun l => by unfold mbL; rw [List.length_map]; exact List.length_filter_le _ _
  induction hi with
  | nil =>
    intro lo l7 e
    have e : lo = rv := e
    subst e
    refine r_6_9 (ht := fun c => ?_) (hf := fun c => by exfalso; omega)
    refine r_6_67 (k := ?_)
    refine s_betw2 hG (fun v ev => ?_)
    dsimp only [Option.toList_some, List.cons_append, List.nil_append]
    refine r_6_76 (k := ?_)
    have b1 := trR_b (w := wyC σ) (tw := fun h => σ (114 + h) 2) (home := home) (wyC_b hW) (mbL σ m lo)
    have b2 := mlen lo
    have b3 := wyC_b hW (trR (wyC σ) (fun h => σ (114 + h) 2) home (mbL σ m lo)).1 home
    rw [Zadd_eq (by omega) (by omega), ev]
    exact k _ rfl
  | cons e hi ih =>
    intro lo l7 er
    have er : hi.reverseAux (e :: lo) = rv := er
    have hlen : hi.length + (lo.length + 1) = rv.length := by rw [← er, rA_len]; simp
    have hmem : e ∈ rv := by rw [← er]; exact rA_mem List.mem_cons_self
    have hrv : RVs σ 23 (hi.reverseAux (e :: lo)) := by rw [er]; exact hS.2.2.2.1
    have he := (RVs_aux hi _ hrv).1
    have he2 := hS.2.2.2.2.2 e hmem
    obtain ⟨x, hx1, hx2, hx3, hx4⟩ := hS.at hmem
    have hx := hL x hx1
    have el : (((e :: lo).length : Nat) : Int) = ((lo.length + 1 : Nat) : Int) := by simp
    refine r_6_9 (ht := fun c => by exfalso; omega) (hf := fun c => ?_)
    refine r_6_18 (ht := fun c => by exfalso; omega) (hf := fun c => ?_)
    refine r_6_24 (k := ?_)
    refine s_member hG hS hm (by omega) he he2 (fun c => ?_) (fun c => ?_)
    · dsimp only [Option.toList_some, List.cons_append, List.nil_append]
      rw [hx3]
      have em := mbL_p (σ := σ) (l := lo) c
      rw [hx4] at em
      refine r_6_31 (ht := fun c => by exfalso; omega) (hf := fun c => ?_)
      refine r_6_38 (h0 := by omega) (k := ?_)
      refine s_betw2 hG (fun v ev => ?_)
      dsimp only [Option.toList_some, List.cons_append, List.nil_append]
      refine r_6_51 (h0 := by omega) (k := ?_)
      have b1 := trR_b (w := wyC σ) (tw := fun h => σ (114 + h) 2) (home := home) (wyC_b hW) (mbL σ m lo)
      have b2 := mlen lo
      have b3 := wyC_b hW (trR (wyC σ) (fun h => σ (114 + h) 2) home (mbL σ m lo)).1 (σ (114 + x) 2)
      rw [Zadd_nat (by omega), ← el, Zadd_eq (by omega) (by omega), ev]
      have q := ih (e :: lo) (13, 114 + x) er
      rw [em, trR_c] at q
      exact q
    · dsimp only [Option.toList_some, List.cons_append, List.nil_append]
      have em := mbL_n (σ := σ) (l := lo) c
      refine r_6_31 (ht := fun _ => ?_) (hf := fun c => by exfalso; omega)
      refine r_6_61 (k := ?_)
      rw [Zadd_nat (by omega), ← el]
      have q := ih (e :: lo) (13, -1) er
      rw [em] at q
      exact q
theorem s_tripOf {d : Nat} {σ : Mem} {n : Nat} {Q : Pst} {L rv : List Int} {m : Nat} {home : Int} (hG : GR σ) (hS : SH σ L rv) (hW : WV σ) (hm : m < 2147483648) (hL : ∀ h ∈ L, 0 ≤ h) (k : ∀ v, v = trT (wyC σ) (fun h => σ (114 + h) 2) home (mbL σ m rv) → Q (some (0, v)) σ n) : EVM (d + 3) 6 [(10, 21), (0, home), (0, (m : Int)), (20, 1)] σ n Q := by
  show EV (d + 3) 6 0 [(10, 21), (0, home), (0, (m : Int)), (20, 1), (9, 0), (9, 0), (9, 0), (9, 0)] [] σ n Q
  refine r_6_0 (k := ?_)
  exact l_trip hG hS hW hm hL k rv.reverse [] _ (by rw [List.reverseAux_eq, List.reverse_reverse, List.append_nil])
