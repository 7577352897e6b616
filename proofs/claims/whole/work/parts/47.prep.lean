/-! the planner prepares a day: the class -/
set_option maxHeartbeats 2000000 in
theorem gr25 {σ : Mem} (h : GR σ) {j : Nat} (hj : j < 4) : σ 25 (j : Int) = 26 + 5 * (j : Int) := by
  rcases (by omega : j = 0 ∨ j = 1 ∨ j = 2 ∨ j = 3) with rfl | rfl | rfl | rfl
  · exact g_25_0 h
  · exact g_25_1 h
  · exact g_25_2 h
  · exact g_25_3 h
def TMc (σ : Mem) (L : List Int) (s : Nat) : List Tm := tmL (abC σ (114 + L.getD s 0)) 5 (90 < σ (114 + L.getD s 0) 1) (σ (114 + L.getD s 0) 3)
/-- the planner's Teams hold these lists -/
def TMs (σ : Mem) (TM : Nat → List Tm) (m : Nat) : Prop := ∀ s : Nat, s < m → σ (26 + 5 * (s : Int)) 4 = ((TM s).length : Int) ∧ TLs σ (26 + 5 * (s : Int) + 1) 0 (TM s)
theorem TLs_fr {σ τ : Mem} {a o : Int} {l : List Tm} (h : TLs σ a o l) (hf : ∀ c j, a ≤ c → c ≤ a + 2 → τ c j = σ c j) : TLs τ a o l := fun i e he => by
  rw [hf _ _ (by omega) (by omega), hf _ _ (by omega) (by omega), hf _ _ (by omega) (by omega)]; exact h i e he
theorem TMs_fr {σ τ : Mem} {TM : Nat → List Tm} {m : Nat} (h : TMs σ TM m) (hf : ∀ c j, 26 ≤ c → c ≤ 45 → τ c j = σ c j) (hm : m ≤ 4) : TMs τ TM m := fun s hs => by
  obtain ⟨h1, h2⟩ := h s hs
  exact ⟨by rw [hf _ _ (by omega) (by omega)]; exact h1, TLs_fr h2 (fun c j a b => hf c j (by omega) (by omega))⟩
theorem SH.fr {σ τ : Mem} {L rv : List Int} (h : SH σ L rv) (h21 : τ 21 2 = σ 21 2) (h22 : ∀ i, τ 22 i = σ 22 i) (h23 : ∀ i, τ 23 i = σ 23 i) : SH τ L rv := ⟨by rw [h21]; exact h.1, h.2.1, fun i x hx => by rw [h22]; exact h.2.2.1 i x hx, RVs_fr rv h.2.2.2.1 (fun j _ _ => h23 j), h.2.2.2.2.1, h.2.2.2.2.2⟩
theorem TKK {j : Nat} (h : j < 4) : TK (26 + 5 * (j : Int)) := by unfold TK; omega
theorem l_prep1 {d : Nat} {n : Nat} {Q : Pst} {σ0 : Mem} {L rv : List Int} (hS : SH σ0 L rv) (hP : PV σ0) (hL : ∀ h ∈ L, 0 ≤ h ∧ HC σ0 (114 + h)) (hq : ∀ τ l5, GR τ → (∀ c i, ¬ c = 13 → ¬ (26 ≤ c ∧ c ≤ 45) → ¬ (c = 24 ∧ i = 8) → τ c i = σ0 c i) → τ 24 8 = (L.length : Int) → TMs τ (TMc σ0 L) L.length → EV (d + 5) 40 63 [(17, 24), (16, 3), (15, 6), (20, 1), (0, (L.length : Int)), l5] [] τ n Q) : ∀ (k j : Nat) (l5 : AV) (σ : Mem), GR σ → (∀ c i, ¬ c = 13 → ¬ (26 ≤ c ∧ c ≤ 45) → ¬ (c = 24 ∧ i = 8) → σ c i = σ0 c i) → σ 24 8 = (L.length : Int) → TMs σ (TMc σ0 L) j → j ≤ L.length → L.length - j < k → EV (d + 5) 40 18 [(17, 24), (16, 3), (15, 6), (20, 1), (0, (j : Int)), l5] [] σ n Q := by
  intro k
  have s2 := hS.2.1
  induction k with
  | zero => intros; exfalso; omega
  | succ k ih =>
    intro j l5 σ hG hf h8 hT hj hk
    have hSσ : SH σ L rv := hS.fr (hf 21 2 (by decide) (by decide) (by decide)) (fun i => hf 22 i (by decide) (by decide) (by omega)) (fun i => hf 23 i (by decide) (by decide) (by omega))
    have s1 := hSσ.1
    refine r_40_18 (ht := fun c => ?_) (hf := fun c => ?_)
    · have ej : j = L.length := by omega
      rw [ej] at hT ⊢
      exact hq σ l5 hG hf h8 hT
    · have hjl : j < L.length := by omega
      have hx0 := List.getElem?_eq_getElem hjl
      have hx1 := hSσ.2.2.1 j _ hx0
      have hx2 := hL _ (List.getElem_mem hjl)
      have ed : L.getD j 0 = L[j] := by rw [List.getD_eq_getElem?_getD, hx0]; rfl
      refine r_40_27 (hG := hG) (k := ?_)
      refine s_shget hG (fun c2 => ?_) (fun c2 => by exfalso; omega)
      dsimp only [Option.toList_some, List.cons_append, List.nil_append]
      rw [hx1]
      refine r_40_36 (ht := fun c3 => by exfalso; omega) (hf := fun c3 => ?_)
      have e25 := gr25 hG (j := j) (by omega)
      refine r_40_43 (hG := hG) (h0 := by omega) (h1 := by omega) (k := ?_)
      rw [e25]
      have lo : ∀ c i, (c ≤ 12 ∨ 114 ≤ c) → σ c i = σ0 c i := fun c i h => hf c i (by omega) (by omega) (by omega)
      have eH : ∀ i, σ (114 + L[j]) i = σ0 (114 + L[j]) i := fun i => lo _ i (by omega)
      obtain ⟨q0, q1, q2, q3, q4, q5, q6⟩ := hx2.2
      refine s_find (TKK (by omega)) hG (hP.fr lo) (by omega) (by rw [eH]; exact q0) (by rw [eH]; omega) (fun τ g1 g2 g3 g4 => ?_)
      dsimp only [Option.toList_none, List.nil_append]
      refine r_40_57 (k := ?_)
      rw [Zadd_nat (by omega)]
      have etm : tmL (abC σ (114 + L[j])) 5 (90 < σ (114 + L[j]) 1) (σ (114 + L[j]) 3) = TMc σ0 L j := by
        unfold TMc
        have ea : abC σ (114 + L[j]) = abC σ0 (114 + L[j]) := funext fun p => funext fun t => abC_fr (by omega) lo p t
        rw [ed, ea]
        simp only [eH]
      rw [etm] at g3 g4
      refine ih (j + 1) _ τ g1 (fun c i a1 a2 a3 => by rw [g2 c i a1 (by omega) (by omega)]; exact hf c i a1 a2 a3) (by rw [g2 24 8 (by decide) (by omega) (by omega)]; exact h8) (fun s hs => ?_) (by omega) (by omega)
      by_cases e : s = j
      · subst e; exact ⟨g3, g4⟩
      · obtain ⟨t1, t2⟩ := hT s (by omega)
        exact ⟨by rw [g2 _ _ (by omega) (by omega) (by omega)]; exact t1, TLs_fr t2 (fun c i a1 a2 => g2 c i (by omega) (by omega) (by omega))⟩
def hmC (σ : Mem) (p : Int) : Int := if 0 ≤ p ∧ p < σ 3 2 ∧ p < 5 then σ 4 p else -1
/-- the planner's tables for the sets below q -/
def TBL (σ0 σ : Mem) (rv : List Int) (q : Nat) : Prop := ∀ m : Nat, m < q → σ 46 (m : Int) = (if hoR (alC σ0) (mbL σ0 m rv) = true then 1 else 0) ∧ ∀ p : Nat, p < 5 → σ 47 ((p : Int) * 16 + (m : Int)) = trT (wyC σ0) (fun h => σ0 (114 + h) 2) (hmC σ0 p) (mbL σ0 m rv)
theorem l_prepP {d : Nat} {n : Nat} {Q : Pst} {σ0 : Mem} {L rv : List Int} {q : Nat} (hG0 : GR σ0) (hS : SH σ0 L rv) (hW : WV σ0) (hL : ∀ h ∈ L, 0 ≤ h ∧ HC σ0 (114 + h)) (hq : q < 16) (hk : ∀ τ x5, (∀ c i, ¬ c = 46 → ¬ c = 47 → τ c i = σ0 c i) → (∀ i, τ 46 i = τ 46 i) → TBL σ0 τ rv (q + 1) → EV (d + 4) 40 138 [(17, 24), (16, 3), (15, 6), (20, 1), (0, (q : Int)), (0, x5)] [] τ n Q) : ∀ (k j : Nat) (σ : Mem), (∀ c i, ¬ c = 46 → ¬ c = 47 → σ c i = σ0 c i) → TBL σ0 σ rv q → σ 46 (q : Int) = (if hoR (alC σ0) (mbL σ0 q rv) = true then 1 else 0) → (∀ p : Nat, p < j → σ 47 ((p : Int) * 16 + (q : Int)) = trT (wyC σ0) (fun h => σ0 (114 + h) 2) (hmC σ0 p) (mbL σ0 q rv)) → j ≤ 5 → 5 - j < k → EV (d + 4) 40 97 [(17, 24), (16, 3), (15, 6), (20, 1), (0, (q : Int)), (0, (j : Int))] [] σ n Q := by
  intro k
  induction k with
  | zero => intros; exfalso; omega
  | succ k ih =>
    intro j σ hf hT h46 h47 hj hkk
    have hG : GR σ := GR.fr (fun c _ => decide (c = 46) || decide (c = 47)) hG0 (fun c j z => hf c j (fun z1 => by simp [z1] at z) (fun z1 => by simp [z1] at z)) (by decide)
    refine r_40_97 (ht := fun c => ?_) (hf := fun c => ?_)
    · refine hk σ _ hf (fun _ => rfl) (fun m hm => ?_)
      by_cases e : m = q
      · subst e; exact ⟨h46, fun p hp => h47 p (by omega)⟩
      · exact hT m (by omega)
    · refine r_40_103 (hG := hG) (k := ?_)
      refine s_homeOf hG (fun v ev => ?_)
      have ev : v = hmC σ0 j := by
        rw [ev, hf 3 2 (by decide) (by decide), hf 4 _ (by decide) (by decide)]; rfl
      dsimp only [Option.toList_some, List.cons_append, List.nil_append]
      refine r_40_125 (k := ?_)
      have hSσ : SH σ L rv := hS.fr (hf 21 2 (by decide) (by decide)) (fun i => hf 22 i (by decide) (by decide)) (fun i => hf 23 i (by decide) (by decide))
      have e2 : σ 2 = σ0 2 := funext fun j => hf 2 j (by decide) (by decide)
      have ew : wyC σ = wyC σ0 := by funext a b; unfold wyC; rw [e2]
      have eO : hO σ = hO σ0 := by funext e; unfold hO; rw [hf 22 e (by decide) (by decide)]
      have em : mbL σ q rv = mbL σ0 q rv := by unfold mbL; rw [eO]
      refine s_tripOf hG hSσ (fun j h0 h1 => by rw [hf 2 j (by decide) (by decide)]; exact hW j h0 h1) (by omega) (fun h hh => (hL h hh).1) (fun v2 ev2 => ?_)
      have hmem : ∀ e ∈ mbL σ0 q rv, 0 ≤ e := fun e he => by
        unfold mbL at he
        obtain ⟨e2, h1, h2⟩ := List.mem_map.mp he
        obtain ⟨x, y1, y2, y3, y4⟩ := hS.at (List.mem_filter.mp h1).1
        rw [← h2, y4]; exact (hL x y1).1
      rw [ew, em, ev] at ev2
      rw [trT_tw (σ := σ0) (τ := σ) _ (fun e he => hf _ _ (by have := hmem e he; omega) (by have := hmem e he; omega))] at ev2
      dsimp only [Option.toList_some, List.cons_append, List.nil_append]
      have z1 : Zadd (Zmul (j : Int) 16) (q : Int) = (j : Int) * 16 + q := by simp (disch := omega) only [Zadd_eq, Zmul_eq]
      refine r_40_131 (h0 := by decide) (h1 := by rw [z1, show lnF 47 = 80 from by decide]; omega) (k := ?_)
      rw [z1, Zadd_nat (by omega)]
      refine ih (j + 1) _ (fun c i a1 a2 => by rw [wr_ne a2]; exact hf c i a1 a2) (fun m hm => ?_) (by rw [wr_ne (by decide)]; exact h46) (fun p hp => ?_) (by omega) (by omega)
      · obtain ⟨t1, t2⟩ := hT m hm
        refine ⟨by rw [wr_ne (by decide)]; exact t1, fun p hp => ?_⟩
        rw [wr_nej (by omega)]; exact t2 p hp
      · by_cases e : p = j
        · subst e; rw [wr_same]; exact ev2
        · rw [wr_nej (by omega)]; exact h47 p (by omega)
theorem l_prepS {d : Nat} {n : Nat} {Q : Pst} {σ0 : Mem} {L rv : List Int} (hG0 : GR σ0) (hS : SH σ0 L rv) (hW : WV σ0) (hL : ∀ h ∈ L, 0 ≤ h ∧ HC σ0 (114 + h)) (h8 : σ0 24 8 = (L.length : Int)) (hk : ∀ τ, (∀ c i, ¬ c = 46 → ¬ c = 47 → τ c i = σ0 c i) → TBL σ0 τ rv (2 ^ L.length) → Q none τ n) : ∀ (k q : Nat) (l5 : AV) (σ : Mem), (∀ c i, ¬ c = 46 → ¬ c = 47 → σ c i = σ0 c i) → TBL σ0 σ rv q → q ≤ 2 ^ L.length → 2 ^ L.length - q < k → EV (d + 5) 40 66 [(17, 24), (16, 3), (15, 6), (20, 1), (0, (q : Int)), l5] [] σ n Q := by
  intro k
  have s2 := hS.2.1
  have p4 : 2 ^ L.length ≤ 2 ^ 4 := Nat.pow_le_pow_right (by decide) s2
  induction k with
  | zero => intros; exfalso; omega
  | succ k ih =>
    intro q l5 σ hf hT hq hkk
    have hG : GR σ := GR.fr (fun c _ => decide (c = 46) || decide (c = 47)) hG0 (fun c j z => hf c j (fun z1 => by simp [z1] at z) (fun z1 => by simp [z1] at z)) (by decide)
    have zl : Zshl 1 (σ 24 8) = ((2 ^ L.length : Nat) : Int) := by rw [hf 24 8 (by decide) (by decide), h8]; exact Zshl_1 (by omega)
    refine r_40_66 (ht := fun c => ?_) (hf := fun c => ?_)
    · rw [zl] at c
      refine r_40_144 (k := hk σ hf ?_)
      rw [show 2 ^ L.length = q by omega]
      exact hT
    · rw [zl] at c
      refine r_40_77 (hG := hG) (k := ?_)
      have hSσ : SH σ L rv := hS.fr (hf 21 2 (by decide) (by decide)) (fun i => hf 22 i (by decide) (by decide)) (fun i => hf 23 i (by decide) (by decide))
      have e2 : σ 2 = σ0 2 := funext fun j => hf 2 j (by decide) (by decide)
      have eH : ∀ h, 0 ≤ h → σ (114 + h) = σ0 (114 + h) := fun h h0 => funext fun i => hf _ i (by omega) (by omega)
      have eO : hO σ = hO σ0 := by funext e; unfold hO; rw [hf 22 e (by decide) (by decide)]
      have em : mbL σ q rv = mbL σ0 q rv := by unfold mbL; rw [eO]
      have hmem : ∀ e ∈ mbL σ0 q rv, 0 ≤ e := fun e he => by
        unfold mbL at he
        obtain ⟨e2, h1, h2⟩ := List.mem_map.mp he
        obtain ⟨x, y1, y2, y3, y4⟩ := hS.at (List.mem_filter.mp h1).1
        rw [← h2, y4]; exact (hL x y1).1
      have eho : hoR (alC σ) (mbL σ q rv) = hoR (alC σ0) (mbL σ0 q rv) := by
        rw [em]
        refine hoR_congr _ (fun a ha b hb => ?_)
        unfold alC wyC
        rw [eH a (hmem a ha), eH b (hmem b hb), e2, hf 1 1 (by decide) (by decide)]
      have go : ∀ v : Int, (v = 0 ∨ v = 1) → v = (if hoR (alC σ0) (mbL σ0 q rv) = true then 1 else 0) → EV (d + 5) 40 93 [(17, 24), (16, 3), (15, 6), (20, 1), (0, (q : Int)), l5] [(0, v), (0, (q : Int)), (52, 46)] σ n Q := fun v hv ev => by
        refine r_40_93 (h0 := by decide) (h1 := by rw [show lnF 46 = 16 from by decide]; omega) (k := ?_)
        rw [Zznar_01 hv]
        refine l_prepP (d := d + 1) hG0 hS hW hL (by omega) (fun τ x5 g1 _ g2 => ?_) 6 0 _ (fun c i a1 a2 => by rw [wr_ne a1]; exact hf c i a1 a2) (fun m hm => ?_) (by rw [wr_same]; exact ev) (fun p hp => by omega) (by omega) (by omega)
        · refine r_40_138 (k := ?_)
          rw [Zadd_nat (by omega)]
          exact ih (q + 1) _ τ g1 g2 (by omega) (by omega)
        · obtain ⟨t1, t2⟩ := hT m hm
          exact ⟨by rw [wr_nej (by omega)]; exact t1, fun p hp => by rw [wr_ne (by decide)]; exact t2 p hp⟩
      refine s_holds hG hSσ (by omega) (fun h hh => ⟨(hL h hh).1, by unfold HC; rw [eH h (hL h hh).1]; exact (hL h hh).2⟩) (fun c2 => ?_) (fun c2 => ?_)
      · rw [eho] at c2
        dsimp only [Option.toList_some, List.cons_append, List.nil_append]
        exact go 1 (Or.inr rfl) (by rw [if_pos c2])
      · rw [eho] at c2
        dsimp only [Option.toList_some, List.cons_append, List.nil_append]
        exact go 0 (Or.inl rfl) (by rw [if_neg c2])
theorem s_prepare {d : Nat} {n : Nat} {Q : Pst} {σ : Mem} {L rv : List Int} (hG : GR σ) (hS : SH σ L rv) (hP : PV σ) (hW : WV σ) (hL : ∀ h ∈ L, 0 ≤ h ∧ HC σ (114 + h)) (k : ∀ τ, GR τ → (∀ c i, ¬ c = 13 → ¬ (26 ≤ c ∧ c ≤ 47) → ¬ (c = 24 ∧ i = 8) → τ c i = σ c i) → τ 24 8 = (L.length : Int) → TMs τ (TMc σ L) L.length → TBL σ τ rv (2 ^ L.length) → Q none τ n) : EVM (d + 5) 40 [(17, 24), (16, 3), (15, 6), (20, 1)] σ n Q := by
  show EV (d + 5) 40 0 [(17, 24), (16, 3), (15, 6), (20, 1), (9, 0), (9, 0)] [] σ n Q
  have s1 := hS.1
  have s2 := hS.2.1
  refine r_40_0 (hG := hG) (k := ?_)
  rw [if_neg (by omega), s1]
  refine l_prep1 hS hP hL (fun τ l5 g1 g2 g3 g4 => ?_) (L.length + 1) 0 _ _ (GR.wr hG (by decide)) (fun c i a1 a2 a3 => by rw [wr_j a3]) wr_same (fun s hs => by omega) (by omega) (by omega)
  refine r_40_63 (k := ?_)
  have hSτ : SH τ L rv := hS.fr (g2 21 2 (by decide) (by decide) (by decide)) (fun i => g2 22 i (by decide) (by decide) (by omega)) (fun i => g2 23 i (by decide) (by decide) (by omega))
  have eH : ∀ h, 0 ≤ h → τ (114 + h) = σ (114 + h) := fun h h0 => funext fun i => g2 _ i (by omega) (by omega) (by omega)
  have e2 : τ 2 = σ 2 := funext fun j => g2 2 j (by decide) (by decide) (by omega)
  have hLτ : ∀ h ∈ L, 0 ≤ h ∧ HC τ (114 + h) := fun h hh => ⟨(hL h hh).1, by unfold HC; rw [eH h (hL h hh).1]; exact (hL h hh).2⟩
  refine l_prepS g1 hSτ (fun j h0 h1 => by rw [e2]; exact hW j h0 h1) hLτ g3 (fun τ2 f1 f2 => ?_) (2 ^ L.length + 1) 0 _ τ (fun _ _ _ _ => rfl) (fun m hm => by omega) (Nat.zero_le _) (Nat.lt_succ_of_le (Nat.sub_le _ _))
  refine k τ2 (GR.fr (fun c _ => decide (c = 46) || decide (c = 47)) g1 (fun c j z => f1 c j (fun z1 => by simp [z1] at z) (fun z1 => by simp [z1] at z)) (by decide)) (fun c i a1 a2 a3 => by rw [f1 c i (by omega) (by omega)]; exact g2 c i a1 (by omega) a3) (by rw [f1 24 8 (by decide) (by decide)]; exact g3) (TMs_fr g4 (fun c j a1 a2 => f1 c j (by omega) (by omega)) s2) (fun m hm => ?_)
  have eO : hO τ = hO σ := by funext e; unfold hO; rw [g2 22 e (by decide) (by decide) (by omega)]
  have em : mbL τ m rv = mbL σ m rv := by unfold mbL; rw [eO]
  have hmem : ∀ e ∈ mbL σ m rv, 0 ≤ e := fun e he => by
    unfold mbL at he
    obtain ⟨e2, h1, h2⟩ := List.mem_map.mp he
    obtain ⟨x, y1, y2, y3, y4⟩ := hS.at (List.mem_filter.mp h1).1
    rw [← h2, y4]; exact (hL x y1).1
  have ew : wyC τ = wyC σ := by funext a b; unfold wyC; rw [e2]
  obtain ⟨t1, t2⟩ := f2 m hm
  rw [em] at t1 t2
  refine ⟨?_, fun p hp => ?_⟩
  · rw [t1]
    have : hoR (alC τ) (mbL σ m rv) = hoR (alC σ) (mbL σ m rv) := hoR_congr _ (fun a ha b hb => by
      unfold alC wyC
      rw [eH a (hmem a ha), eH b (hmem b hb), e2, g2 1 1 (by decide) (by decide) (by decide)])
    rw [this]
  · rw [t2 p hp, ew]
    have eh : hmC τ p = hmC σ p := by unfold hmC; rw [g2 3 2 (by decide) (by decide) (by decide), g2 4 _ (by decide) (by decide) (by omega)]
    rw [eh]
    exact trT_tw _ (fun e he => by rw [eH e (hmem e he)])
