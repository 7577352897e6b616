/-! journeys of both sides -/
def seC (σ : Mem) (p x : Int) : Bool := decide (¬ p = -1 ∧ (σ (114 + x) 9 = p ∨ σ (114 + x) 10 = p))
theorem two_tb {n m : Nat} : (2 ^ n).testBit m = decide (n = m) := Nat.testBit_two_pow
theorem l_seated {d : Nat} {σ : Mem} {n : Nat} {Q : Pst} {L rv : List Int} {p : Int} (hG : GR σ) (hS : SH σ L rv) (hL : ∀ h ∈ L, 0 ≤ h) (k : ∀ m : Nat, m < 16 → (∀ (i : Nat) x, L[i]? = some x → (m.testBit i = seC σ p x)) → Q (some (0, (m : Int))) σ n) : ∀ (f j m : Nat) (l4 : AV), j ≤ L.length → L.length - j < f → m < 2 ^ j → (∀ (i : Nat) x, i < j → L[i]? = some x → (m.testBit i = seC σ p x)) → EV (d + 1) 4 4 [(10, 21), (0, p), (0, (m : Int)), (0, (j : Int)), l4] [] σ n Q := by
  intro f
  have s1 := hS.1
  have s2 := hS.2.1
  induction f with
  | zero => intros; exfalso; omega
  | succ f ih =>
    intro j m l4 hj hf hm hb
    have p4 : 2 ^ j ≤ 2 ^ 4 := Nat.pow_le_pow_right (by decide) (by omega)
    refine r_4_4 (ht := fun c => ?_) (hf := fun c => ?_)
    · refine r_4_45 (k := k m (by omega) (fun i x hx => hb i x ?_ hx))
      have : i < L.length := by
        rcases Nat.lt_or_ge i L.length with q | q
        · exact q
        · rw [List.getElem?_eq_none q] at hx; cases hx
      omega
    · have hjl : j < L.length := by omega
      have hx0 := List.getElem?_eq_getElem hjl
      have hx1 := hS.2.2.1 j _ hx0
      have hx2 := hL _ (List.getElem_mem hjl)
      have mono : ∀ i x, i < j + 1 → L[i]? = some x → ¬ i < j → x = L[j] := fun i x h1 h2 h3 => by
        have : i = j := by omega
        subst this
        rw [hx0] at h2
        exact (Option.some.inj h2).symm
      have tj : m.testBit j = false := Nat.testBit_lt_two_pow hm
      refine r_4_12 (k := ?_)
      refine s_shget hG (fun c2 => ?_) (fun c2 => by exfalso; omega)
      dsimp only [Option.toList_some, List.cons_append, List.nil_append]
      rw [hx1]
      refine r_4_17 (ht := fun c3 => by exfalso; omega) (hf := fun c3 => ?_)
      refine r_4_24 (h0 := c3) (k := ?_)
      refine s_isSeated c3 (fun c4 => ?_) (fun c4 => ?_)
      · dsimp only [Option.toList_some, List.cons_append, List.nil_append]
        refine r_4_30 (ht := fun c => absurd c (by decide)) (hf := fun _ => ?_)
        refine r_4_33 (k := ?_)
        rw [Zshl_1 (by omega), Zor_nat (by omega) (by omega), Zadd_nat (by omega)]
        refine ih (j + 1) _ _ (by omega) (by omega) (Nat.or_lt_two_pow (Nat.lt_of_lt_of_le hm (Nat.pow_le_pow_right (by decide) (by omega))) (Nat.pow_lt_pow_right (by decide) (by omega))) (fun i x h1 h2 => ?_)
        rw [Nat.testBit_or, two_tb]
        by_cases h3 : i < j
        · rw [hb i x h3 h2, decide_eq_false (by omega), Bool.or_false]
        · have ex := mono i x h1 h2 h3
          have ei : i = j := by omega
          rw [ei, decide_eq_true rfl, Bool.or_true]
          subst ex
          exact (decide_eq_true c4).symm
      · dsimp only [Option.toList_some, List.cons_append, List.nil_append]
        refine r_4_30 (ht := fun _ => ?_) (hf := fun c => absurd rfl c)
        refine r_4_39 (k := ?_)
        rw [Zadd_nat (by omega)]
        refine ih (j + 1) _ _ (by omega) (by omega) (Nat.lt_of_lt_of_le hm (Nat.pow_le_pow_right (by decide) (by omega))) (fun i x h1 h2 => ?_)
        by_cases h3 : i < j
        · exact hb i x h3 h2
        · have ex := mono i x h1 h2 h3
          have ei : i = j := by omega
          rw [ei, tj]
          subst ex
          exact (decide_eq_false c4).symm
theorem s_seated {d : Nat} {σ : Mem} {n : Nat} {Q : Pst} {L rv : List Int} {p : Int} (hG : GR σ) (hS : SH σ L rv) (hL : ∀ h ∈ L, 0 ≤ h) (k : ∀ m : Nat, m < 16 → (∀ (i : Nat) x, L[i]? = some x → (m.testBit i = seC σ p x)) → Q (some (0, (m : Int))) σ n) : EVM (d + 1) 4 [(10, 21), (0, p)] σ n Q := by
  show EV (d + 1) 4 0 [(10, 21), (0, p), (9, 0), (9, 0), (9, 0)] [] σ n Q
  refine r_4_0 (k := ?_)
  exact l_seated hG hS hL k (L.length + 1) 0 0 _ (by omega) (by omega) (by decide) (fun i x h => by omega)
/-- the members of a set, in the order of their begins -/
theorem mbL_eq {σ : Mem} {L rv : List Int} {m : Nat} {f : Int → Int} {P : Int → Bool} (hS : SH σ L rv) (hr : rv.map (hO σ) = isR f L) (hb : ∀ (i : Nat) x, L[i]? = some x → (m.testBit i = P x)) : mbL σ m rv = isR f (L.filter P) := by
  rw [← isR_filter, ← hr, List.filter_map]
  unfold mbL
  congr 1
  refine List.filter_congr (fun e he => ?_)
  obtain ⟨x, hx1, hx2, hx3, hx4⟩ := hS.at he
  show m.testBit e.toNat = P (hO σ e)
  rw [hx4]
  exact hb _ _ hx2
theorem s_journeys {d : Nat} {σ : Mem} {n : Nat} {Q : Pst} {p y : Int} (hG : GR σ) (hD : DK σ) (hW : WV σ) (h4 : (dlN (lvC σ y) (σ 14 1).toNat).length ≤ 4) (hv : (0 ≤ p ∧ p < σ 3 2 ∧ p < 5) ∧ (0 ≤ y ∧ y ≤ 999) → ∀ τ, (∀ c i, ¬ (c = 21 ∧ i = 2) → ¬ c = 22 → ¬ c = 23 → τ c i = σ c i) → Q (some (0, trT (wyC σ) (fun h => σ (114 + h) 2) (σ 4 p) (isR (fun h => σ (114 + h) 6) (dlN (fun h => lvC σ y h && seC σ p h) (σ 14 1).toNat)))) τ n) (hn : ¬ ((0 ≤ p ∧ p < σ 3 2 ∧ p < 5) ∧ (0 ≤ y ∧ y ≤ 999)) → Q (some (0, -1)) σ n) : EVM (d + 4) 103 [(21, 0), (0, p), (0, y)] σ n Q := by
  show EV (d + 4) 103 0 [(21, 0), (0, p), (0, y)] [] σ n Q
  refine r_103_0 (hG := hG) (k := ?_)
  refine s_has (fun c => ?_) (fun c => ?_)
  · dsimp only [Option.toList_some, List.cons_append, List.nil_append]
    refine r_103_8 (ht := fun c => absurd c (by decide)) (hf := fun _ => ?_)
    refine r_103_11 (k := ?_)
    refine s_isDay (fun c2 => ?_) (fun c2 => ?_)
    · dsimp only [Option.toList_some, List.cons_append, List.nil_append]
      refine r_103_15 (ht := fun _ => ?_) (hf := fun c => absurd c (by decide))
      refine r_103_20 (hG := hG) (k := ?_)
      refine s_gather hG hD h4 (fun τ rv g1 g2 g3 => ?_)
      dsimp only [Option.toList_none, List.nil_append]
      have hG2 := hG.frS g1
      have e3 := g1 3 2 (by omega) (by decide) (by decide)
      have hL : ∀ h ∈ dlN (lvC σ y) (σ 14 1).toNat, 0 ≤ h := fun h hh => (dlN_b _ h hh).1
      have eH : ∀ h ∈ dlN (lvC σ y) (σ 14 1).toNat, ∀ i, τ (114 + h) i = σ (114 + h) i := fun h hh i => g1 _ i (by have := hL h hh; omega) (by have := hL h hh; omega) (by have := hL h hh; omega)
      refine r_103_32 (hG := hG2) (k := ?_)
      refine s_homeOf hG2 (fun v ev => ?_)
      rw [if_pos (by omega), g1 4 p (by omega) (by decide) (by decide)] at ev
      dsimp only [Option.toList_some, List.cons_append, List.nil_append]
      refine r_103_44 (hG := hG2) (k := ?_)
      refine s_seated hG2 g2 hL (fun m hm hb => ?_)
      dsimp only [Option.toList_some, List.cons_append, List.nil_append]
      refine r_103_52 (hG := hG2) (k := ?_)
      have hW2 : WV τ := fun j h0 h1 => by rw [g1 2 j (by omega) (by decide) (by decide)]; exact hW j h0 h1
      refine s_tripOf hG2 g2 hW2 (by omega) hL (fun v2 ev2 => ?_)
      dsimp only [Option.toList_some, List.cons_append, List.nil_append]
      refine r_103_59 (k := ?_)
      have hm2 : mbL τ m rv = isR (fun h => σ (114 + h) 6) ((dlN (lvC σ y) (σ 14 1).toNat).filter (seC σ p)) := mbL_eq g2 g3 (fun i x hx => by
        rw [hb i x hx]
        unfold seC
        rw [eH x (List.mem_of_getElem? hx), eH x (List.mem_of_getElem? hx)])
      rw [dlN_filter] at hm2
      have e2 : τ 2 = σ 2 := funext fun j => g1 2 j (by omega) (by decide) (by decide)
      have ew : wyC τ = wyC σ := by funext a b; unfold wyC; rw [e2]
      have et : v2 = trT (wyC σ) (fun h => σ (114 + h) 2) (σ 4 p) (isR (fun h => σ (114 + h) 6) (dlN (fun h => lvC σ y h && seC σ p h) (σ 14 1).toNat)) := by
        rw [ev2, ev, hm2, ew]
        have hc : ∀ l : List Int, (∀ h ∈ l, 0 ≤ h) → trR (wyC σ) (fun h => τ (114 + h) 2) (σ 4 p) l = trR (wyC σ) (fun h => σ (114 + h) 2) (σ 4 p) l := fun l => by
          induction l with
          | nil => intro _; rfl
          | cons e l ih =>
            intro h
            have h0 := h e List.mem_cons_self
            rw [trR_c, trR_c, ih (fun x hx => h x (List.mem_cons_of_mem _ hx))]
            show (τ (114 + e) 2, _ + wyC σ _ (τ (114 + e) 2)) = _
            rw [g1 (114 + e) 2 (by omega) (by omega) (by omega)]
        unfold trT
        rw [hc _ (fun h hh => (dlN_b _ h (isR_mem.mp hh)).1)]
      rw [et]
      exact hv ⟨c, c2⟩ τ g1
    · dsimp only [Option.toList_some, List.cons_append, List.nil_append]
      refine r_103_15 (ht := fun c => absurd rfl c) (hf := fun _ => ?_)
      exact r_103_18 (k := hn (by omega))
  · dsimp only [Option.toList_some, List.cons_append, List.nil_append]
    refine r_103_8 (ht := fun _ => ?_) (hf := fun c => absurd rfl c)
    exact r_103_18 (k := hn (by omega))
/-- the reference's row 'mine' -/
def MN (σ0 σ : Mem) (rv : List Int) : Prop := (∀ c j, ¬ c = 97 → ¬ (c = 69 ∧ j = 33) → σ c j = σ0 c j) ∧ σ 69 33 = (rv.length : Int) ∧ RVs σ 97 rv
theorem MN.GR {σ0 σ : Mem} {rv : List Int} (h : MN σ0 σ rv) (hG : GR σ0) : GR σ := GR.fr (fun c j => decide (c = 97) || (decide (c = 69) && decide (j = 33))) hG (fun c j q => h.1 c j (fun z => by simp [z] at q) (fun z => by simp [z.1, z.2] at q)) (by decide)
theorem l_join {d : Nat} {n : Nat} {Q : Pst} {σ0 : Mem} {h : Int} (hG0 : GR σ0) (hh : 0 ≤ h ∧ h < 24) (rl : Int) : ∀ (lo hi : List Int) (σ : Mem), (∀ c j, ¬ c = 97 → ¬ (c = 69 ∧ j = 33) → σ c j = σ0 c j) → σ 69 33 = rl → (0 ≤ rl ∧ rl < 24) → RVs σ 97 lo → (∀ v, RVs (wrM σ 97 (lo.length : Int) v) 97 (hi ++ v :: lo)) → (∀ e ∈ lo, 0 ≤ e ∧ e < 24) → lo.length < 24 → (∀ τ, (∀ c j, ¬ c = 97 → ¬ (c = 69 ∧ j = 33) → τ c j = σ0 c j) → τ 69 33 = rl + 1 → RVs τ 97 (hi ++ insR (σ0 81) (σ0 81 h) h lo) → Q none τ n) → EV d 146 5 [(22, 69), (0, h), (0, (lo.length : Int))] [] σ n Q := by
  intro lo
  have gr : ∀ σ : Mem, (∀ c j, ¬ c = 97 → ¬ (c = 69 ∧ j = 33) → σ c j = σ0 c j) → GR σ := fun σ hf => GR.fr (fun c j => decide (c = 97) || (decide (c = 69) && decide (j = 33))) hG0 (fun c j q => hf c j (fun z => by simp [z] at q) (fun z => by simp [z.1, z.2] at q)) (by decide)
  have fin : ∀ (lo hi : List Int) (σ : Mem), (∀ c j, ¬ c = 97 → ¬ (c = 69 ∧ j = 33) → σ c j = σ0 c j) → σ 69 33 = rl → (0 ≤ rl ∧ rl < 24) → (∀ v, RVs (wrM σ 97 (lo.length : Int) v) 97 (hi ++ v :: lo)) → lo.length < 24 → insR (σ0 81) (σ0 81 h) h lo = h :: lo → (∀ τ, (∀ c j, ¬ c = 97 → ¬ (c = 69 ∧ j = 33) → τ c j = σ0 c j) → τ 69 33 = rl + 1 → RVs τ 97 (hi ++ insR (σ0 81) (σ0 81 h) h lo) → Q none τ n) → EV d 146 51 [(22, 69), (0, h), (0, (lo.length : Int))] [] σ n Q := fun lo hi σ hf hs hrl hv hl he hq => by
    refine r_146_51 (hG := gr σ hf) (h0 := by omega) (k := ?_)
    refine hq _ (fun c j q1 q2 => by rw [wr_if, if_neg q2, wr_ne q1]; exact hf c j q1 q2) (by rw [wr_same, hs, Zadd_eq (by omega) (by omega)]) ?_
    rw [he]
    exact RVs_fr _ (hv h) (fun j _ _ => wr_ne (by decide))
  induction lo with
  | nil =>
    intro hi σ hf hs hrl hr hv _ hl hq
    refine r_146_5 (ht := fun c => ?_) (hf := fun c => by exfalso; simp at c)
    exact fin [] hi σ hf hs hrl hv hl rfl hq
  | cons e l ih =>
    intro hi σ hf hs hrl hr hv he hl hq
    have el : (((e :: l).length : Nat) : Int) = (l.length : Int) + 1 := by simp
    have hl2 : l.length + 1 < 24 := by simpa using hl
    have he1 := he e List.mem_cons_self
    have hre : σ 97 (l.length : Int) = e := hr.1
    have zs : Zsub ((e :: l).length : Int) 1 = (l.length : Int) := by rw [Zsub_eq (by omega) (by omega)]; omega
    have e81 : ∀ i, σ 81 i = σ0 81 i := fun i => hf 81 i (by decide) (by omega)
    have hG := gr σ hf
    refine r_146_5 (ht := fun c => by exfalso; omega) (hf := fun c => ?_)
    refine r_146_9 (hG := hG) (h0 := by rw [zs]; omega) (h1 := by rw [zs, hre]; omega) (h2 := hh) (ht := fun c2 => ?_) (hf := fun c2 => ?_)
    · rw [zs, hre, e81, e81] at c2
      exact fin (e :: l) hi σ hf hs hrl hv hl (by rw [insR_c, if_neg (by omega)]) hq
    · rw [zs, hre, e81, e81] at c2
      refine r_146_31 (hG := hG) (h0 := by rw [zs]; omega) (h1 := by omega) (k := ?_)
      rw [zs, hre, Zadd_eq (by omega) (by omega), show (((e :: l).length : Nat) : Int) + -1 = (l.length : Int) by omega]
      refine ih (hi ++ [e]) _ (fun c j q1 q2 => by rw [wr_ne q1]; exact hf c j q1 q2) (by rw [wr_ne (by decide)]; exact hs) hrl (RVs_fr l hr.2 (fun j h0 h1 => wr_nej (by omega))) (fun v => ?_) (fun y hy => he y (List.mem_cons_of_mem _ hy)) (by omega) (fun τ g1 g2 g3 => hq τ g1 g2 ?_)
      · have q := hv e
        exact RVs_upd (v := v) (w := e) (l := l) (hi ++ [e]) (by simpa using q)
      · rw [insR_c, if_pos c2]
        simpa using g3
theorem m_joins {d : Nat} {σ0 σ : Mem} {n : Nat} {Q : Pst} {h : Int} {rv : List Int} (hG0 : GR σ0) (hM : MN σ0 σ rv) (hh : 0 ≤ h ∧ h < 24) (he : ∀ e ∈ rv, 0 ≤ e ∧ e < 24) (hl : rv.length < 24) (k : ∀ τ, MN σ0 τ (insR (σ0 81) (σ0 81 h) h rv) → Q none τ n) : EVM d 146 [(22, 69), (0, h)] σ n Q := by
  show EV d 146 0 [(22, 69), (0, h), (9, 0)] [] σ n Q
  refine r_146_0 (k := ?_)
  rw [hM.2.1]
  refine l_join hG0 hh (rv.length : Int) rv [] σ hM.1 hM.2.1 (by omega) hM.2.2 (fun v => RVs_push hM.2.2) he hl (fun τ g1 g2 g3 => k τ ⟨g1, ?_, g3⟩)
  rw [g2, insR_len]; omega
def wyM (σ : Mem) (a b : Int) : Int := if (0 ≤ a ∧ a ≤ 5) ∧ (0 ≤ b ∧ b ≤ 5) then σ 70 (6 * a + b) else 0
def WM (σ : Mem) : Prop := ∀ j, 0 ≤ j → j < 36 → 0 ≤ σ 70 j ∧ σ 70 j ≤ 300
theorem wyM_b {σ : Mem} (h : WM σ) (a b : Int) : 0 ≤ wyM σ a b ∧ wyM σ a b ≤ 300 := by
  unfold wyM
  split
  · exact h _ (by omega) (by omega)
  · omega
/-- a hearing's town, begin and length, by the reference -/
def HR (σ : Mem) (h : Int) : Prop := (0 ≤ h ∧ h < 24) ∧ (0 ≤ σ 83 h ∧ σ 83 h ≤ 5) ∧ (10 ≤ σ 82 h ∧ σ 82 h ≤ 240) ∧ (0 ≤ σ 81 h ∧ σ 81 h + σ 82 h ≤ 1440)
def alM (σ : Mem) (a b : Int) : Bool := decide (σ 69 11 ≤ σ 81 b - (σ 81 a + σ 82 a) ∧ wyM σ (σ 83 a) (σ 83 b) ≤ σ 81 b - (σ 81 a + σ 82 a))
theorem l_jo {d : Nat} {σ : Mem} {n : Nat} {Q : Pst} {p : Int} {rv : List Int} (hG : GR σ) (hW : WM σ) (hs : σ 69 33 = (rv.length : Int)) (hl : rv.length ≤ 24) (hr : RVs σ 97 rv) (hp : 0 ≤ p ∧ p < 6) (hh : 0 ≤ σ 72 p ∧ σ 72 p ≤ 5) (he : ∀ e ∈ rv, HR σ e) (k : ∀ v, v = trT (wyM σ) (σ 83) (σ 72 p) rv → Q (some (0, v)) σ n) : ∀ (hi lo : List Int), hi.reverseAux lo = rv → EV d 147 12 [(22, 69), (0, p), (0, (trR (wyM σ) (σ 83) (σ 72 p) lo).2), (0, (trR (wyM σ) (σ 83) (σ 72 p) lo).1), (0, (lo.length : Int))] [] σ n Q := by
  intro hi
  have at_ : ∀ lo : List Int, (∀ e ∈ lo, HR σ e) → 0 ≤ (trR (wyM σ) (σ 83) (σ 72 p) lo).1 ∧ (trR (wyM σ) (σ 83) (σ 72 p) lo).1 ≤ 5 := fun lo h => (trR_congr (w := wyM σ) (w' := wyM σ) (tw := σ 83) (tw' := σ 83) lo (fun _ _ => rfl) (fun e he => (h e he).2.1) hh (fun _ _ _ _ _ _ => rfl)).2
  induction hi with
  | nil =>
    intro lo e
    have e : lo = rv := e
    subst e
    have a1 := at_ lo he
    have b1 := trR_b (w := wyM σ) (tw := σ 83) (home := σ 72 p) (wyM_b hW) lo
    have z1 : Zadd (Zmul 6 (trR (wyM σ) (σ 83) (σ 72 p) lo).1) (σ 72 p) = 6 * (trR (wyM σ) (σ 83) (σ 72 p) lo).1 + σ 72 p := by simp (disch := omega) only [Zadd_eq, Zmul_eq]
    refine r_147_12 (ht := fun c => ?_) (hf := fun c => by exfalso; omega)
    refine r_147_65 (hG := hG) (h0 := hp) (h1 := by rw [z1]; omega) (k := ?_)
    have ew : wyM σ (trR (wyM σ) (σ 83) (σ 72 p) lo).1 (σ 72 p) = σ 70 (6 * (trR (wyM σ) (σ 83) (σ 72 p) lo).1 + σ 72 p) := if_pos ⟨a1, hh⟩
    have b2 := wyM_b hW (trR (wyM σ) (σ 83) (σ 72 p) lo).1 (σ 72 p)
    rw [z1, ← ew, Zadd_eq (by omega) (by omega)]
    exact k _ rfl
  | cons e hi ih =>
    intro lo er
    have er : hi.reverseAux (e :: lo) = rv := er
    have hlen : hi.length + (lo.length + 1) = rv.length := by rw [← er, rA_len]; simp
    have hrv : RVs σ 97 (hi.reverseAux (e :: lo)) := by rw [er]; exact hr
    have hee := (RVs_aux hi _ hrv).1
    have h1 := he e (by rw [← er]; exact rA_mem List.mem_cons_self)
    have a1 := at_ lo (fun x hx => he x (by rw [← er]; exact rA_mem (List.mem_cons_of_mem _ hx)))
    have b1 := trR_b (w := wyM σ) (tw := σ 83) (home := σ 72 p) (wyM_b hW) lo
    have el : (((e :: lo).length : Nat) : Int) = ((lo.length + 1 : Nat) : Int) := by simp
    have h11 := h1.1
    have h12 := h1.2.1
    have z1 : Zadd (Zmul 6 (trR (wyM σ) (σ 83) (σ 72 p) lo).1) (σ 83 e) = 6 * (trR (wyM σ) (σ 83) (σ 72 p) lo).1 + σ 83 e := by simp (disch := omega) only [Zadd_eq, Zmul_eq]
    refine r_147_12 (ht := fun c => by exfalso; omega) (hf := fun c => ?_)
    refine r_147_21 (hG := hG) (h0 := by omega) (h1 := by rw [hee]; omega) (h2 := by rw [hee, z1]; omega) (k := ?_)
    have ew : wyM σ (trR (wyM σ) (σ 83) (σ 72 p) lo).1 (σ 83 e) = σ 70 (6 * (trR (wyM σ) (σ 83) (σ 72 p) lo).1 + σ 83 e) := if_pos ⟨a1, h12⟩
    have b2 := wyM_b hW (trR (wyM σ) (σ 83) (σ 72 p) lo).1 (σ 83 e)
    rw [hee, z1, ← ew, Zadd_eq (by omega) (by omega), Zadd_nat (by omega), ← el]
    exact ih (e :: lo) er
theorem m_journeysOf {d : Nat} {σ : Mem} {n : Nat} {Q : Pst} {p : Int} {rv : List Int} (hG : GR σ) (hW : WM σ) (hs : σ 69 33 = (rv.length : Int)) (hl : rv.length ≤ 24) (hr : RVs σ 97 rv) (hp : 0 ≤ p ∧ p < 6) (hh : 0 ≤ σ 72 p ∧ σ 72 p ≤ 5) (he : ∀ e ∈ rv, HR σ e) (k : ∀ v, v = trT (wyM σ) (σ 83) (σ 72 p) rv → Q (some (0, v)) σ n) : EVM d 147 [(22, 69), (0, p)] σ n Q := by
  show EV d 147 0 [(22, 69), (0, p), (9, 0), (9, 0), (9, 0)] [] σ n Q
  refine r_147_0 (hG := hG) (h0 := hp) (k := ?_)
  exact l_jo hG hW hs hl hr hp hh he k rv.reverse [] (by rw [List.reverseAux_eq, List.reverse_reverse, List.append_nil])
theorem l_mho {d : Nat} {σ : Mem} {n : Nat} {Q : Pst} {rv : List Int} (hG : GR σ) (hs : σ 69 33 = (rv.length : Int)) (hl : rv.length ≤ 24) (hr : RVs σ 97 rv) (he : ∀ e ∈ rv, HR σ e) (ht : hoR (alM σ) rv = true → Q (some (0, 1)) σ n) (hf : ¬ hoR (alM σ) rv = true → Q (some (0, 0)) σ n) : ∀ (hi : List Int) (a : Int) (lo : List Int) (l2 l3 l4 : AV), hi.reverseAux (a :: lo) = rv → hoR (alM σ) (a :: lo) = true → EV d 148 2 [(22, 69), (0, ((a :: lo).length : Int)), l2, l3, l4] [] σ n Q := by
  intro hi
  induction hi with
  | nil =>
    intro a lo l2 l3 l4 e ho
    have e : a :: lo = rv := e
    rw [e] at ho
    refine r_148_2 (ht := fun c => ?_) (hf := fun c => by exfalso; rw [e] at c; omega)
    exact r_148_91 (k := ht ho)
  | cons b hi ih =>
    intro a lo l2 l3 l4 er ho
    have er : hi.reverseAux (b :: a :: lo) = rv := er
    have hlen : hi.length + (lo.length + 1 + 1) = rv.length := by rw [← er, rA_len]; simp
    have hrv : RVs σ 97 (hi.reverseAux (b :: a :: lo)) := by rw [er]; exact hr
    have hrb := RVs_aux hi _ hrv
    have hb0 := hrb.1
    have ha0 := hrb.2.1
    have hb := he b (by rw [← er]; exact rA_mem List.mem_cons_self)
    have ha := he a (by rw [← er]; exact rA_mem (List.mem_cons_of_mem _ List.mem_cons_self))
    have el : (((a :: lo).length : Nat) : Int) = (lo.length : Int) + 1 := by simp
    have el2 : (((b :: a :: lo).length : Nat) : Int) = (lo.length : Int) + 1 + 1 := by simp
    have zs : Zsub ((a :: lo).length : Int) 1 = (lo.length : Int) := by rw [Zsub_eq (by omega) (by omega)]; omega
    obtain ⟨hb1, hb2, hb3, hb4⟩ := hb
    obtain ⟨ha1, ha2, ha3, ha4⟩ := ha
    have zg : Zsub (Zsub (σ 81 b) (σ 81 a)) (σ 82 a) = σ 81 b - (σ 81 a + σ 82 a) := by
      rw [Zsub_eq (a := σ 81 b) (by omega) (by omega), Zsub_eq (by omega) (by omega)]; omega
    have zw : Zadd (Zmul 6 (σ 83 a)) (σ 83 b) = 6 * σ 83 a + σ 83 b := by simp (disch := omega) only [Zadd_eq, Zmul_eq]
    have ew : wyM σ (σ 83 a) (σ 83 b) = σ 70 (6 * σ 83 a + σ 83 b) := if_pos ⟨ha2, hb2⟩
    have no : ¬ alM σ a b = true → Q (some (0, 0)) σ n := fun h => hf (fun z => h (by
      rw [← er, List.reverseAux_eq] at z
      have z2 := hoR_app _ z
      rw [hoR_c] at z2
      exact (Bool.and_eq_true _ _ ▸ z2).1))
    refine r_148_2 (ht := fun c => by exfalso; omega) (hf := fun c => ?_)
    refine r_148_10 (hG := hG) (h0 := by rw [zs]; omega) (h1 := by omega) (h2 := by rw [hb0]; omega) (h3 := by rw [zs, ha0]; omega) (ht := fun c2 => ?_) (hf := fun c2 => ?_)
    · rw [zs, hb0, ha0, zg] at c2
      exact r_148_83 (k := no (fun z => by have := of_decide_eq_true z; omega))
    · rw [zs, hb0, ha0, zg] at c2
      rw [zs, hb0, ha0, zg]
      refine r_148_57 (hG := hG) (h0 := by omega) (h1 := by omega) (h2 := by rw [zw]; omega) (ht := fun c3 => ?_) (hf := fun c3 => ?_)
      · rw [zw, ← ew] at c3
        refine r_148_85 (k := ?_)
        rw [Zadd_eq (by omega) (by omega), show (((a :: lo).length : Nat) : Int) + 1 = (((b :: a :: lo).length : Nat) : Int) by omega]
        refine ih b (a :: lo) _ _ _ er ?_
        rw [hoR_c, ho, show alM σ a b = true from decide_eq_true ⟨c2, c3⟩]; rfl
      · rw [zw, ← ew] at c3
        exact r_148_83 (k := no (fun z => by have := of_decide_eq_true z; omega))
theorem m_holds {d : Nat} {σ : Mem} {n : Nat} {Q : Pst} {rv : List Int} (hG : GR σ) (hs : σ 69 33 = (rv.length : Int)) (hl : rv.length ≤ 24) (hr : RVs σ 97 rv) (he : ∀ e ∈ rv, HR σ e) (ht : hoR (alM σ) rv = true → Q (some (0, 1)) σ n) (hf : ¬ hoR (alM σ) rv = true → Q (some (0, 0)) σ n) : EVM d 148 [(22, 69)] σ n Q := by
  show EV d 148 0 [(22, 69), (9, 0), (9, 0), (9, 0), (9, 0)] [] σ n Q
  refine r_148_0 (k := ?_)
  cases hrr : rv.reverse with
  | nil =>
    have e : rv = [] := by simpa using hrr
    subst e
    refine r_148_2 (ht := fun c => ?_) (hf := fun c => by exfalso; simp at hs; omega)
    exact r_148_91 (k := ht rfl)
  | cons a hi =>
    have e : hi.reverseAux (a :: []) = rv := by
      rw [List.reverseAux_eq]
      have : (a :: hi).reverse = rv := by rw [← hrr, List.reverse_reverse]
      rw [← this]; simp
    exact l_mho hG hs hl hr he ht hf hi a [] _ _ _ e rfl
def lvM (σ : Mem) (y h : Int) : Bool := decide (σ 80 h = y ∧ σ 86 h < 0)
def seM (σ : Mem) (p h : Int) : Bool := decide (σ 87 h = p ∨ σ 88 h = p)
set_option maxHeartbeats 2000000 in
theorem l_mjo {d : Nat} {n : Nat} {Q : Pst} {σ0 : Mem} {p y : Int} (hG0 : GR σ0) (hh : 0 ≤ σ0 69 12 ∧ σ0 69 12 ≤ 24) : ∀ (k j : Nat) (σ : Mem), MN σ0 σ (isR (σ0 81) (dlN (fun h => lvM σ0 y h && seM σ0 p h) j)) → (j : Int) ≤ σ0 69 12 → σ0 69 12 - j < k → (∀ τ l, MN σ0 τ (isR (σ0 81) (dlN (fun h => lvM σ0 y h && seM σ0 p h) (σ0 69 12).toNat)) → EV (d + 1) 159 71 [(22, 69), (0, p), (0, y), (0, l)] [] τ n Q) → EV (d + 1) 159 24 [(22, 69), (0, p), (0, y), (0, (j : Int))] [] σ n Q := by
  intro k
  induction k with
  | zero => intros; exfalso; omega
  | succ k ih =>
    intro j σ hM hj hk hq
    have hG := hM.GR hG0
    have e12 := hM.1 69 12 (by decide) (by decide)
    have e80 := hM.1 80 j (by decide) (by omega)
    have e86 := hM.1 86 j (by decide) (by omega)
    have e87 := hM.1 87 j (by decide) (by omega)
    have e88 := hM.1 88 j (by decide) (by omega)
    have skip : ¬ (lvM σ0 y j && seM σ0 p j) = true → EV (d + 1) 159 24 [(22, 69), (0, p), (0, y), (0, Zadd (j : Int) 1)] [] σ n Q ∨ ¬ (j : Int) < σ0 69 12 := fun hc => by
      by_cases q : (j : Int) < σ0 69 12
      · left
        rw [Zadd_nat (by omega)]
        exact ih (j + 1) σ (by rw [dlN_s, if_neg hc, List.append_nil]; exact hM) (by omega) (by omega) hq
      · exact Or.inr q
    refine r_159_24 (ht := fun c => ?_) (hf := fun c => ?_)
    · rw [show (σ0 69 12).toNat = j by omega] at hq
      exact hq σ _ hM
    · have skip2 : ¬ (lvM σ0 y j && seM σ0 p j) = true → EV (d + 1) 159 24 [(22, 69), (0, p), (0, y), (0, Zadd (j : Int) 1)] [] σ n Q := fun hc => (skip hc).resolve_right (fun z => z (by omega))
      refine r_159_32 (hG := hG) (h0 := by omega) (ht := fun c2 => ?_) (hf := fun c2 => ?_)
      · refine r_159_65 (k := skip2 (fun z => ?_))
        have := of_decide_eq_true (Bool.and_eq_true _ _ ▸ z).1
        omega
      · refine r_159_42 (hG := hG) (h0 := by omega) (ht := fun c3 => ?_) (hf := fun c3 => ?_)
        · refine r_159_65 (k := skip2 (fun z => ?_))
          have := of_decide_eq_true (Bool.and_eq_true _ _ ▸ z).1
          omega
        · refine r_159_51 (k := ?_)
          refine m_isSeated hG (by omega) (fun c4 => ?_) (fun c4 => ?_)
          · dsimp only [Option.toList_some, List.cons_append, List.nil_append]
            refine r_159_57 (ht := fun c => absurd c (by decide)) (hf := fun _ => ?_)
            refine r_159_60 (k := ?_)
            have hb : ∀ e ∈ isR (σ0 81) (dlN (fun h => lvM σ0 y h && seM σ0 p h) j), 0 ≤ e ∧ e < 24 := fun e he => by
              have := dlN_b j e (isR_mem.mp he); omega
            have hln : (isR (σ0 81) (dlN (fun h => lvM σ0 y h && seM σ0 p h) j)).length ≤ j := by
              rw [isR_len]
              have : ∀ (q : Int → Bool) (k : Nat), (dlN q k).length ≤ k := fun q k => by
                induction k with
                | zero => exact Nat.le_refl 0
                | succ k ih => rw [dlN_s, List.length_append]; split <;> simp <;> omega
              exact this _ j
            refine m_joins hG0 hM (by omega) hb (by omega) (fun τ hM2 => ?_)
            dsimp only [Option.toList_none, List.nil_append]
            refine r_159_65 (k := ?_)
            rw [Zadd_nat (by omega)]
            have hc : (lvM σ0 y j && seM σ0 p j) = true := by
              rw [Bool.and_eq_true]
              exact ⟨decide_eq_true (by omega), decide_eq_true (by omega)⟩
            exact ih (j + 1) τ (by rw [dlN_s, if_pos hc, isR_snoc]; exact hM2) (by omega) (by omega) hq
          · dsimp only [Option.toList_some, List.cons_append, List.nil_append]
            refine r_159_57 (ht := fun _ => ?_) (hf := fun c => absurd rfl c)
            refine r_159_65 (k := skip2 (fun z => ?_))
            have := of_decide_eq_true (Bool.and_eq_true _ _ ▸ z).2
            omega
theorem m_journeys {d : Nat} {σ : Mem} {n : Nat} {Q : Pst} {p y : Int} (hG : GR σ) (hW : WM σ) (hh : 0 ≤ σ 69 12 ∧ σ 69 12 ≤ 24) (hp5 : 0 ≤ σ 69 2 ∧ σ 69 2 ≤ 5) (hho : ∀ q, 0 ≤ q → q < σ 69 2 → 0 ≤ σ 72 q ∧ σ 72 q ≤ 5) (hH : ∀ h, 0 ≤ h → h < σ 69 12 → HR σ h) (hv : (0 ≤ p ∧ p < σ 69 2) ∧ (0 ≤ y ∧ y ≤ 999) → ∀ τ, (∀ c j, ¬ c = 97 → ¬ (c = 69 ∧ j = 33) → τ c j = σ c j) → Q (some (0, if dlN (fun h => lvM σ y h && seM σ p h) (σ 69 12).toNat = [] then 0 else trT (wyM σ) (σ 83) (σ 72 p) (isR (σ 81) (dlN (fun h => lvM σ y h && seM σ p h) (σ 69 12).toNat)))) τ n) (hn : ¬ ((0 ≤ p ∧ p < σ 69 2) ∧ (0 ≤ y ∧ y ≤ 999)) → Q (some (0, -1)) σ n) : EVM (d + 2) 159 [(22, 69), (0, p), (0, y)] σ n Q := by
  show EV (d + 2) 159 0 [(22, 69), (0, p), (0, y), (9, 0)] [] σ n Q
  have hz : Zsub (σ 69 2) 1 = σ 69 2 - 1 := Zsub_eq (by omega) (by omega)
  refine r_159_0 (k := ?_)
  refine m_isPerson (fun c => ?_) (fun c => ?_)
  · dsimp only [Option.toList_some, List.cons_append, List.nil_append]
    refine r_159_5 (ht := fun c => absurd c (by decide)) (hf := fun _ => ?_)
    refine r_159_8 (k := ?_)
    refine m_isDay (fun c2 => ?_) (fun c2 => ?_)
    · dsimp only [Option.toList_some, List.cons_append, List.nil_append]
      refine r_159_12 (ht := fun _ => ?_) (hf := fun c => absurd c (by decide))
      refine r_159_17 (k := ?_)
      refine l_mjo (d := d + 1) (σ0 := σ) hG hh ((σ 69 12).toNat + 1) 0 _ ⟨fun c j q1 q2 => by rw [wr_if, if_neg q2], by rw [wr_same]; rfl, trivial⟩ (by omega) (by omega) (fun τ l hM => ?_)
      have hm : ∀ e ∈ isR (σ 81) (dlN (fun h => lvM σ y h && seM σ p h) (σ 69 12).toNat), 0 ≤ e ∧ e < σ 69 12 := fun e he => by
        have := dlN_b _ e (isR_mem.mp he); omega
      have hlen := hM.2.1
      have hfin := hv (by omega) τ hM.1
      refine r_159_71 (ht := fun c3 => ?_) (hf := fun c3 => ?_)
      · rw [if_neg (fun z => c3 (by rw [hlen, isR_len, z]; rfl))] at hfin
        refine r_159_82 (k := ?_)
        have fr := hM.1
        have e70 : τ 70 = σ 70 := funext fun j => fr 70 j (by decide) (by omega)
        have e72 : τ 72 p = σ 72 p := fr 72 p (by decide) (by omega)
        have e83 : τ 83 = σ 83 := funext fun j => fr 83 j (by decide) (by omega)
        have e82 : τ 82 = σ 82 := funext fun j => fr 82 j (by decide) (by omega)
        have e81 : τ 81 = σ 81 := funext fun j => fr 81 j (by decide) (by omega)
        have hl24 : (isR (σ 81) (dlN (fun h => lvM σ y h && seM σ p h) (σ 69 12).toNat)).length ≤ 24 := by
          rw [isR_len]
          have : ∀ (q : Int → Bool) (k : Nat), (dlN q k).length ≤ k := fun q k => by
            induction k with
            | zero => exact Nat.le_refl 0
            | succ k ih => rw [dlN_s, List.length_append]; split <;> simp <;> omega
          have := this (fun h => lvM σ y h && seM σ p h) (σ 69 12).toNat
          omega
        refine m_journeysOf (hM.GR hG) (fun j h0 h1 => by rw [e70]; exact hW j h0 h1) hlen hl24 hM.2.2 (by omega) (by rw [e72]; exact hho p (by omega) (by omega)) (fun e he => ?_) (fun v ev => ?_)
        · have := hm e he
          have q := hH e this.1 this.2
          unfold HR at q ⊢
          rw [e83, e82, e81]
          exact q
        · dsimp only [Option.toList_some, List.cons_append, List.nil_append]
          refine r_159_87 (k := ?_)
          have ew : wyM τ = wyM σ := by funext a b; unfold wyM; rw [e70]
          rw [ev, ew, e83, e72]
          exact hfin
      · have hz : dlN (fun h => lvM σ y h && seM σ p h) (σ 69 12).toNat = [] := by
          have : (isR (σ 81) (dlN (fun h => lvM σ y h && seM σ p h) (σ 69 12).toNat)).length = 0 := by omega
          rw [isR_len] at this
          exact List.eq_nil_of_length_eq_zero this
        rw [if_pos hz] at hfin
        exact r_159_78 (k := hfin)
    · dsimp only [Option.toList_some, List.cons_append, List.nil_append]
      refine r_159_12 (ht := fun c => absurd rfl c) (hf := fun _ => ?_)
      exact r_159_15 (k := hn (by omega))
  · dsimp only [Option.toList_some, List.cons_append, List.nil_append]
    refine r_159_5 (ht := fun _ => ?_) (hf := fun c => absurd rfl c)
    exact r_159_15 (k := hn (by omega))
