/-! fees: the class -/
set_option maxHeartbeats 2000000 in
theorem s_cadd {d : Nat} {n : Nat} {Q : Pst} {σ : Mem} {l : List Cl} {T y key m s : Int} (hT : T = 59 ∨ T = 64) (hG : GR σ) (hC : CLs σ T l) (hl : l.length < 60) (k : ∀ τ, (∀ c j, ¬ (c = T ∧ j = 4) → ¬ (T + 1 ≤ c ∧ c ≤ T + 4) → τ c j = σ c j) → CLs τ T (l ++ [(y, key, m, s)]) → Q none τ n) : EVM d 15 [(12, T), (0, y), (0, key), (0, m), (0, s)] σ n Q := by
  rcases hT with rfl | rfl
  · exact s_cadd59 hG hC hl k
  · exact s_cadd64 hG hC hl k
theorem o0_z {x : Int} : o0 0 x = x := if_pos rfl
theorem CLs_fr {σ τ : Mem} {T : Int} {l : List Cl} (h : CLs σ T l) (hf : ∀ c j, T ≤ c → c ≤ T + 4 → τ c j = σ c j) : CLs τ T l := by
  refine ⟨by rw [hf _ _ (by omega) (by omega)]; exact h.1, fun i e he => ?_⟩
  rw [hf _ _ (by omega) (by omega), hf _ _ (by omega) (by omega), hf _ _ (by omega) (by omega), hf _ _ (by omega) (by omega)]
  exact h.2 i e he
set_option maxHeartbeats 4000000 in
theorem s_clause {d : Nat} {n : Nat} {Q : Pst} {σ : Mem} {l : List Cl} {T a : Int} (hT : T = 59 ∨ T = 64) (hG : GR σ) (hB : BV σ) (ha1 : σ 50 1 = a) (ha : 0 ≤ a ∧ a ≤ σ 50 3) (hf0 : σ 50 2 = 0) (hC : CLs σ T l) (hl : cf (uC σ) a = 0 → l.length < 60) (k : ∀ τ, (∀ c j, ¬ (c = 50 ∧ (j = 1 ∨ j = 2)) → ¬ (c = T ∧ j = 4) → ¬ (T + 1 ≤ c ∧ c ≤ T + 4) → τ c j = σ c j) → τ 50 2 = cf (uC σ) a → (cf (uC σ) a = 0 → τ 50 1 = ca4 (uC σ) a ∧ CLs τ T (l ++ [ccl (uC σ) a])) → Q none τ n) : EVM (d + 4) 53 [(18, 50), (12, T)] σ n Q := by
  show EV (d + 4) 53 0 [(18, 50), (12, T), (9, 0), (9, 0), (9, 0), (9, 0), (9, 0)] [] σ n Q
  have hB1 := hB.1
  have b := cl_b hB.uv ha.1 ha.2
  have S0 : TS σ σ a 0 := ⟨fun _ _ _ => rfl, ha1, hf0⟩
  refine r_53_0 (k := ?_)
  refine s_from hG hB S0 ha (fun τ1 S1 => ?_)
  rw [o0_z] at S1
  dsimp only [Option.toList_none, List.nil_append]
  refine r_53_4 (k := ?_)
  refine s_number hG hB S1 (by omega) (fun τ2 S2 => ?_)
  dsimp only [Option.toList_some, List.cons_append, List.nil_append]
  have S2 : TS σ τ2 (ca1 (uC σ) a) (o0 (f0 (uC σ) a) (f1 (uC σ) a)) := S2
  refine r_53_12 (k := ?_)
  refine s_kind hG hB S2 (by omega) (fun τ3 S3 => ?_)
  dsimp only [Option.toList_some, List.cons_append, List.nil_append]
  have S3 : TS σ τ3 (ce2 (uC σ) a) (o0 (o0 (f0 (uC σ) a) (f1 (uC σ) a)) (f2 (uC σ) a)) := S3
  have kk := kd_b (u := uC σ) (s := cs2 (uC σ) a) (e := ce2 (uC σ) a)
  have kk2 : -1 ≤ ck (uC σ) a ∧ ck (uC σ) a ≤ 5 := kk.1
  show EV (d + 4) 53 17 [(18, 50), (12, T), (0, dgV (uC σ) (ce (uC σ) a)), (9, 0), (9, 0), (9, 0), (9, 0)] [(0, ck (uC σ) a)] τ3 n Q
  -- behind the number
  have fin : ∀ (τ : Mem) (x4 x6 : Int), TS σ τ (ca4 (uC σ) a) (cf (uC σ) a) → x4 = cg (uC σ) a → x6 = csh (uC σ) a → ((¬ τ 50 2 = 0 → EV (d + 4) 53 97 [(18, 50), (12, T), (0, dgV (uC σ) (ce (uC σ) a)), (0, ck (uC σ) a), (0, x4), (0, cn (uC σ) a), (0, x6)] [] τ n Q) ∧ (τ 50 2 = 0 → EV (d + 4) 53 74 [(18, 50), (12, T), (0, dgV (uC σ) (ce (uC σ) a)), (0, ck (uC σ) a), (0, x4), (0, cn (uC σ) a), (0, x6)] [] τ n Q)) := fun τ x4 x6 S e4 e6 => by
    constructor
    · intro hne
      exact r_53_97 (k := k τ (fun c j q1 q2 q3 => S.1 c j q1) S.2.2 (fun z => absurd (S.2.2.trans z) hne))
    · intro hz
      have cz : cf (uC σ) a = 0 := S.2.2.symm.trans hz
      obtain ⟨z0, z1, z2, z3, z4, z5⟩ := cf_0 cz
      have hCτ : CLs τ T l := CLs_fr hC (fun c j h1 h2 => S.1 c j (by omega))
      have done : ∀ τ2, (∀ c j, ¬ (c = T ∧ j = 4) → ¬ (T + 1 ≤ c ∧ c ≤ T + 4) → τ2 c j = τ c j) → CLs τ2 T (l ++ [ccl (uC σ) a]) → Q none τ2 n := fun τ2 g1 g2 => by
        refine k τ2 (fun c j q1 q2 q3 => by rw [g1 c j q2 q3]; exact S.1 c j q1) ?_ (fun _ => ⟨?_, g2⟩)
        · rw [g1 50 2 (by omega) (by omega)]; exact S.2.2
        · rw [g1 50 1 (by omega) (by omega)]; exact S.2.1
      refine r_53_74 (ht := fun c => ?_) (hf := fun c => ?_)
      · refine r_53_89 (h0 := by omega) (k := ?_)
        refine s_cadd hT (S.GR hG) hCτ (hl cz) (fun τ2 g1 g2 => ?_)
        dsimp only [Option.toList_none, List.nil_append]
        refine r_53_97 (k := done τ2 g1 ?_)
        unfold ccl
        rw [if_neg c, ← e6]
        exact g2
      · refine r_53_81 (h0 := by omega) (k := ?_)
        have gb : 1 ≤ cg (uC σ) a ∧ cg (uC σ) a ≤ 5 := by
          unfold f3 at z3
          rw [if_pos c] at z3
          have := nmF_0 hB.uv (a := ce2 (uC σ) a) (by omega) (by omega) z3
          unfold cg
          rw [if_pos c]
          exact this.2
        rw [Zadd_eq (by omega) (by omega)]
        refine s_cadd hT (S.GR hG) hCτ (hl cz) (fun τ2 g1 g2 => ?_)
        dsimp only [Option.toList_none, List.nil_append]
        refine r_53_97 (k := done τ2 g1 ?_)
        unfold ccl
        rw [if_pos c, ← e6, ← e4]
        exact g2
  -- the number and the share
  have num : ∀ (τ : Mem) (x4 : Int), TS σ τ (ca2 (uC σ) a) (o0 (o0 (o0 (f0 (uC σ) a) (f1 (uC σ) a)) (f2 (uC σ) a)) (f3 (uC σ) a)) → x4 = cg (uC σ) a → EV (d + 4) 53 40 [(18, 50), (12, T), (0, dgV (uC σ) (ce (uC σ) a)), (0, ck (uC σ) a), (0, x4), (9, 0), (9, 0)] [(0, loK (ck (uC σ) a)), (18, 50)] τ n Q := fun τ x4 S e4 => by
    refine r_53_40 (k := ?_)
    refine s_highest (fun v ev => ?_)
    dsimp only [Option.toList_some, List.cons_append, List.nil_append]
    rw [ev]
    refine r_53_44 (k := ?_)
    refine s_number hG hB S (by omega) (fun τ4 S4 => ?_)
    dsimp only [Option.toList_some, List.cons_append, List.nil_append]
    have S4 : TS σ τ4 (ca3 (uC σ) a) (o0 (o0 (o0 (o0 (f0 (uC σ) a) (f1 (uC σ) a)) (f2 (uC σ) a)) (f3 (uC σ) a)) (f4 (uC σ) a)) := S4
    show EV (d + 4) 53 47 [(18, 50), (12, T), (0, dgV (uC σ) (ce (uC σ) a)), (0, ck (uC σ) a), (0, x4), (9, 0), (9, 0)] [(0, cn (uC σ) a)] τ4 n Q
    refine r_53_47 (ht := fun c => ?_) (hf := fun c => ?_)
    · have S5 : TS σ τ4 (ca4 (uC σ) a) (cf (uC σ) a) := by
        have e1 : ca4 (uC σ) a = ca3 (uC σ) a := if_neg c
        have e2 : f5 (uC σ) a = 0 := if_neg c
        unfold cf
        rw [e1, e2, o0_00]
        exact S4
      have fq := fin τ4 x4 0 S5 e4 (by unfold csh; rw [if_neg c])
      exact r_53_64 (ht := fq.1) (hf := fq.2)
    · refine r_53_54 (k := ?_)
      refine s_number hG hB S4 (by omega) (fun τ5 S5 => ?_)
      dsimp only [Option.toList_some, List.cons_append, List.nil_append]
      have S6 : TS σ τ5 (ca4 (uC σ) a) (cf (uC σ) a) := by
        have e1 : ca4 (uC σ) a = dgE (uC σ) (ca3 (uC σ) a) := if_pos c
        have e2 : f5 (uC σ) a = nmF (uC σ) (ca3 (uC σ) a) 0 100 := if_pos c
        unfold cf
        rw [e1, e2]
        exact S5
      have fq := fin τ5 x4 (dgV (uC σ) (ca3 (uC σ) a)) S6 e4 (by unfold csh; rw [if_pos c])
      exact r_53_61 (ht := fq.1) (hf := fq.2)
  refine r_53_17 (ht := fun c => ?_) (hf := fun c => ?_)
  · refine r_53_32 (k := ?_)
    refine s_lowest (fun v ev => ?_)
    dsimp only [Option.toList_some, List.cons_append, List.nil_append]
    rw [ev]
    refine num τ3 0 ?_ (by unfold cg; rw [if_neg c])
    have e1 : ca2 (uC σ) a = ce2 (uC σ) a := if_neg c
    have e2 : f3 (uC σ) a = 0 := if_neg c
    rw [e1, e2, o0_00]
    exact S3
  · refine r_53_23 (k := ?_)
    refine s_number hG hB S3 (by omega) (fun τ4 S4 => ?_)
    dsimp only [Option.toList_some, List.cons_append, List.nil_append]
    refine r_53_29 (k := ?_)
    refine s_lowest (fun v ev => ?_)
    dsimp only [Option.toList_some, List.cons_append, List.nil_append]
    rw [ev]
    refine num τ4 _ ?_ (by unfold cg; rw [if_pos c])
    have e1 : ca2 (uC σ) a = dgE (uC σ) (ce2 (uC σ) a) := if_pos c
    have e2 : f3 (uC σ) a = nmF (uC σ) (ce2 (uC σ) a) 1 5 := if_pos c
    rw [e1, e2]
    exact S4
theorem s_semi {d : Nat} {n : Nat} {Q : Pst} {σ : Mem} {a : Int} (hG : GR σ) (hB : BV σ) (ha1 : σ 50 1 = a) (ha : 0 ≤ a ∧ a ≤ σ 50 3) (hf0 : σ 50 2 = 0) (h0 : uC σ (sk (uC σ) a) = -1 → ∀ τ, TS σ τ (sk (uC σ) a) 0 → Q (some (0, 0)) τ n) (h1 : uC σ (sk (uC σ) a) = 59 → ∀ τ, TS σ τ (sk (uC σ) a + 1) 0 → Q (some (0, 1)) τ n) (h2 : ¬ uC σ (sk (uC σ) a) = -1 → ¬ uC σ (sk (uC σ) a) = 59 → ∀ τ, TS σ τ (sk (uC σ) a) (1 + 4 * sk (uC σ) a) → Q (some (0, 0)) τ n) : EVM (d + 2) 54 [(18, 50)] σ n Q := by
  show EV (d + 2) 54 0 [(18, 50)] [] σ n Q
  have hB1 := hB.1
  have b := sk_b hB.uv ha.1 ha.2
  have ue := u_end hB.uv (x := sk (uC σ) a) (by omega)
  refine r_54_0 (k := ?_)
  refine s_skip hG hB (⟨fun _ _ _ => rfl, ha1, hf0⟩ : TS σ σ a 0) ha (fun τ S => ?_)
  dsimp only [Option.toList_none, List.nil_append]
  have e1 := S.2.1
  have e3 := S.1 50 3 (by decide)
  refine r_54_4 (ht := fun c => ?_) (hf := fun c => ?_)
  · refine r_54_17 (k := ?_)
    refine s_byteAt (S.GR hG) (S.bv hB) (fun v ev => ?_)
    rw [S.u, e1] at ev
    dsimp only [Option.toList_some, List.cons_append, List.nil_append]
    refine r_54_25 (ht := fun c2 => ?_) (hf := fun c2 => ?_)
    · refine r_54_41 (k := ?_)
      rw [e1, Zadd_eq (by omega) (by omega)]
      exact h1 (by omega) _ S.at
    · refine r_54_30 (k := ?_)
      rw [e1]
      refine s_blame S (by omega) (by omega) (fun τ2 S2 => ?_)
      rw [o0_z] at S2
      dsimp only [Option.toList_none, List.nil_append]
      exact r_54_39 (k := h2 (fun z => by have := ue.mp z; omega) (by omega) τ2 S2)
  · exact r_54_15 (k := h0 (ue.mpr (by omega)) τ S)
/-- what a reading leaves: the fault; and, where it is 0, the clauses -/
def RD (σ0 τ : Mem) (T f : Int) (l : List Cl) : Prop := (∀ c j, ¬ (c = 50 ∧ (j = 1 ∨ j = 2)) → ¬ (c = T ∧ j = 4) → ¬ (T + 1 ≤ c ∧ c ≤ T + 4) → τ c j = σ0 c j) ∧ τ 50 2 = f ∧ (f = 0 → CLs τ T l)
theorem l_read {d : Nat} {n : Nat} {Q : Pst} {σ0 : Mem} {T : Int} (hT : T = 59 ∨ T = 64) (hG0 : GR σ0) (hB0 : BV σ0) : ∀ (f : Nat) (j : Nat) (a : Int) (l : List Cl) (σ : Mem), RD σ0 σ T 0 l → σ 50 1 = a → (0 ≤ a ∧ a ≤ σ0 50 3) → σ0 50 3 - a < f → (l.length = j) → (10 * (j : Int) ≤ a) → (∀ τ, RD σ0 τ T (paF (uC σ0) f a l).1 (paF (uC σ0) f a l).2 → Q (some (0, (paF (uC σ0) f a l).1)) τ n) → EV (d + 5) 52 38 [(18, 50), (12, T), (0, 1), (0, (j : Int))] [] σ n Q := by
  intro f
  induction f with
  | zero => intros; exfalso; omega
  | succ f ih =>
    intro j a l σ hR ha1 ha hk hlj h10 hq
    have hB1 := hB0.1
    obtain ⟨fr, hf0, hC⟩ := hR
    have hC := hC rfl
    have e51 : σ 51 = σ0 51 := funext fun x => fr 51 x (by omega) (by omega) (by omega)
    have e503 : σ 50 3 = σ0 50 3 := fr 50 3 (by decide) (by omega) (by omega)
    have eu : uC σ = uC σ0 := by unfold uC; rw [e51, e503]
    have hB : BV σ := by unfold BV; rw [e51, e503]; exact hB0
    have hG : GR σ := GR.fr (fun c j => (decide (c = 50) && (decide (j = 1) || decide (j = 2))) || (decide (59 ≤ c) && decide (c ≤ 68) && !(decide (c = 59) && !decide (j = 4)) && !(decide (c = 64) && !decide (j = 4)))) hG0 (fun c j q => by
      by_cases hc : (c = 50 ∧ (j = 1 ∨ j = 2)) ∨ (c = T ∧ j = 4) ∨ (T + 1 ≤ c ∧ c ≤ T + 4)
      · exfalso
        simp only [Bool.or_eq_false_iff, Bool.and_eq_false_iff, Bool.or_eq_true, Bool.not_eq_false', Bool.and_eq_true, decide_eq_true_eq, decide_eq_false_iff_not, Bool.not_eq_true', Bool.not_eq_eq_eq_not, Bool.not_true, Bool.not_false] at q
        omega
      · exact fr c j (by omega) (by omega) (by omega)) (by decide)
    have b := cl_b hB0.uv ha.1 ha.2
    refine r_52_38 (ht := fun c => absurd c (by decide)) (hf := fun _ => ?_)
    refine r_52_42 (ht := fun c => by exfalso; omega) (hf := fun _ => ?_)
    refine r_52_49 (k := ?_)
    refine s_clause hT hG hB ha1 (by rw [e503]; exact ha) hf0 hC (fun cz => by rw [eu] at cz; have := cf_9 hB0.uv ha.1 ha.2 cz; omega) (fun τ g1 g2 g3 => ?_)
    rw [eu] at g2 g3
    dsimp only [Option.toList_none, List.nil_append]
    have frτ : ∀ c j, ¬ (c = 50 ∧ (j = 1 ∨ j = 2)) → ¬ (c = T ∧ j = 4) → ¬ (T + 1 ≤ c ∧ c ≤ T + 4) → τ c j = σ0 c j := fun c j q1 q2 q3 => by rw [g1 c j q1 q2 q3]; exact fr c j q1 q2 q3
    have eτ51 : τ 51 = σ0 51 := funext fun x => frτ 51 x (by omega) (by omega) (by omega)
    have eτ503 : τ 50 3 = σ0 50 3 := frτ 50 3 (by decide) (by omega) (by omega)
    have euτ : uC τ = uC σ0 := by unfold uC; rw [eτ51, eτ503]
    have hBτ : BV τ := by unfold BV; rw [eτ51, eτ503]; exact hB0
    have hGτ : GR τ := GR.fr (fun c j => (decide (c = 50) && (decide (j = 1) || decide (j = 2))) || (decide (59 ≤ c) && decide (c ≤ 68) && !(decide (c = 59) && !decide (j = 4)) && !(decide (c = 64) && !decide (j = 4)))) hG0 (fun c j q => by
      by_cases hc : (c = 50 ∧ (j = 1 ∨ j = 2)) ∨ (c = T ∧ j = 4) ∨ (T + 1 ≤ c ∧ c ≤ T + 4)
      · exfalso
        simp only [Bool.or_eq_false_iff, Bool.and_eq_false_iff, Bool.or_eq_true, Bool.not_eq_false', Bool.and_eq_true, decide_eq_true_eq, decide_eq_false_iff_not, Bool.not_eq_true', Bool.not_eq_eq_eq_not, Bool.not_true, Bool.not_false] at q
        omega
      · exact frτ c j (by omega) (by omega) (by omega)) (by decide)
    refine r_52_54 (ht := fun c => ?_) (hf := fun c => ?_)
    · have cz : ¬ cf (uC σ0) a = 0 := by rw [← g2]; exact c
      refine r_52_72 (k := ?_)
      refine r_52_38 (ht := fun _ => ?_) (hf := fun c => absurd rfl c)
      refine r_52_80 (k := ?_)
      rw [paF_s, if_neg cz] at hq
      rw [g2]
      exact hq τ ⟨frτ, g2, fun z => absurd z cz⟩
    · have cz : cf (uC σ0) a = 0 := by rw [← g2]; exact c
      obtain ⟨g4, g5⟩ := g3 cz
      have h9 := cf_9 hB0.uv ha.1 ha.2 cz
      have b4 := sk_b hB0.uv (a := ca4 (uC σ0) a) (by omega) (by omega)
      have ue := u_end hB0.uv (x := sk (uC σ0) (ca4 (uC σ0) a)) (by omega)
      rw [paF_s, if_pos cz] at hq
      have rd : ∀ τ2 x f2, TS τ τ2 x f2 → RD σ0 τ2 T f2 (l ++ [ccl (uC σ0) a]) := fun τ2 x f2 S => ⟨fun c j q1 q2 q3 => by rw [S.1 c j q1]; exact frτ c j q1 q2 q3, S.2.2, fun _ => CLs_fr g5 (fun c j h1 h2 => S.1 c j (by omega))⟩
      refine r_52_61 (k := ?_)
      refine s_semi (a := ca4 (uC σ0) a) hGτ hBτ g4 (by omega) c (fun u0 τ2 S => ?_) (fun u1 τ2 S => ?_) (fun u2 u3 τ2 S => ?_)
      · rw [euτ] at u0 S
        rw [if_pos u0] at hq
        dsimp only [Option.toList_some, List.cons_append, List.nil_append]
        refine r_52_65 (ht := fun _ => ?_) (hf := fun c => absurd rfl c)
        refine r_52_72 (k := ?_)
        refine r_52_38 (ht := fun _ => ?_) (hf := fun c => absurd rfl c)
        refine r_52_80 (k := ?_)
        rw [S.2.2]
        exact hq τ2 (rd τ2 _ _ S)
      · rw [euτ] at u1 S
        rw [if_neg (by omega), if_pos u1] at hq
        dsimp only [Option.toList_some, List.cons_append, List.nil_append]
        refine r_52_65 (ht := fun c => absurd c (by decide)) (hf := fun _ => ?_)
        refine r_52_68 (k := ?_)
        rw [Zadd_nat (by omega)]
        have : sk (uC σ0) (ca4 (uC σ0) a) < σ0 50 3 := by
          rcases Int.lt_or_le (sk (uC σ0) (ca4 (uC σ0) a)) (σ0 50 3) with q | q
          · exact q
          · have := ue.mpr q; omega
        exact ih (j + 1) (sk (uC σ0) (ca4 (uC σ0) a) + 1) _ τ2 (rd τ2 _ _ S) S.2.1 (by omega) (by omega) (by rw [List.length_append]; simp; omega) (by omega) hq
      · rw [euτ] at u2 u3 S
        rw [if_neg u2, if_neg u3] at hq
        dsimp only [Option.toList_some, List.cons_append, List.nil_append]
        refine r_52_65 (ht := fun _ => ?_) (hf := fun c => absurd rfl c)
        refine r_52_72 (k := ?_)
        refine r_52_38 (ht := fun _ => ?_) (hf := fun c => absurd rfl c)
        refine r_52_80 (k := ?_)
        rw [S.2.2]
        exact hq τ2 (rd τ2 _ _ S)
theorem s_read {d : Nat} {n : Nat} {Q : Pst} {σ : Mem} {T : Int} (hT : T = 59 ∨ T = 64) (hG : GR σ) (hB : BV σ) (k : ∀ τ, RD σ τ T (paR (uC σ)).1 (paR (uC σ)).2 → Q (some (0, (paR (uC σ)).1)) τ n) : EVM (d + 5) 52 [(18, 50), (12, T)] σ n Q := by
  show EV (d + 5) 52 0 [(18, 50), (12, T), (9, 0), (9, 0)] [] σ n Q
  have hB1 := hB.1
  refine r_52_0 (h0 := by omega) (k := ?_)
  -- the start
  have fr0 : ∀ c j, ¬ (c = 50 ∧ (j = 1 ∨ j = 2)) → ¬ (c = T ∧ j = 4) → wrM (wrM (wrM σ T 4 0) 50 1 0) 50 2 0 c j = σ c j := fun c j q1 q2 => by rw [wr_j (by omega), wr_j (by omega), wr_j (by omega)]
  have hG1 : GR (wrM (wrM (wrM σ T 4 0) 50 1 0) 50 2 0) := by
    rcases hT with rfl | rfl
    · exact GR.wr (GR.wr (GR.wr hG (by decide)) (by decide)) (by decide)
    · exact GR.wr (GR.wr (GR.wr hG (by decide)) (by decide)) (by decide)
  have e51 : (wrM (wrM (wrM σ T 4 0) 50 1 0) 50 2 0) 51 = σ 51 := funext fun x => fr0 51 x (by omega) (by omega)
  have e503 : (wrM (wrM (wrM σ T 4 0) 50 1 0) 50 2 0) 50 3 = σ 50 3 := fr0 50 3 (by decide) (by omega)
  have eu : uC (wrM (wrM (wrM σ T 4 0) 50 1 0) 50 2 0) = uC σ := by unfold uC; rw [e51, e503]
  have hBs : BV (wrM (wrM (wrM σ T 4 0) 50 1 0) 50 2 0) := by unfold BV; rw [e51, e503]; exact hB
  have S0 : TS (wrM (wrM (wrM σ T 4 0) 50 1 0) 50 2 0) (wrM (wrM (wrM σ T 4 0) 50 1 0) 50 2 0) 0 0 := ⟨fun _ _ _ => rfl, by rw [wr_nej (by decide), wr_same], wr_same⟩
  refine s_skip hG1 hBs S0 (by rw [e503]; omega) (fun τ S => ?_)
  rw [eu] at S
  dsimp only [Option.toList_none, List.nil_append]
  have b := sk_b hB.uv (a := 0) (by omega) (by omega)
  have ue := u_end hB.uv (x := sk (uC σ) 0) (by omega)
  have e1 := S.2.1
  have e3 : τ 50 3 = σ 50 3 := by rw [S.1 50 3 (by decide), e503]
  have R0 : RD σ τ T 0 [] := ⟨fun c j q1 q2 q3 => by rw [S.1 c j q1]; exact fr0 c j q1 q2, S.2.2, fun _ => ⟨by rw [S.1 T 4 (by omega), wr_ne (by omega), wr_ne (by omega), wr_same]; rfl, fun i e he => by simp at he⟩⟩
  refine r_52_19 (ht := fun c => ?_) (hf := fun c => ?_)
  · refine r_52_34 (k := ?_)
    refine r_52_38 (ht := fun _ => ?_) (hf := fun c => absurd rfl c)
    refine r_52_80 (k := ?_)
    unfold paR at k
    rw [if_pos (ue.mpr (by omega))] at k
    rw [S.2.2]
    exact k τ R0
  · refine r_52_30 (k := ?_)
    unfold paR at k
    rw [if_neg (fun z => by have := ue.mp z; omega)] at k
    exact l_read hT hG hB 700 0 (sk (uC σ) 0) [] τ R0 e1 (by omega) (by omega) rfl (by omega) k
theorem s_fees {d : Nat} {n : Nat} {Q : Pst} {σ : Mem} (hG : GR σ) (hB : BV σ) (hT : (σ 0 9 = 59 ∧ σ 0 10 = 64) ∨ (σ 0 9 = 64 ∧ σ 0 10 = 59)) (hz : (paR (uC σ)).1 = 0 → ∀ τ, GR τ → (∀ c j, ¬ (c = 50 ∧ (1 ≤ j ∧ j ≤ 3)) → ¬ (c = σ 0 10 ∧ j = 4) → ¬ (σ 0 10 + 1 ≤ c ∧ c ≤ σ 0 10 + 4) → ¬ (c = 0 ∧ (j = 9 ∨ j = 10)) → τ c j = σ c j) → τ 50 3 = 0 → τ 0 9 = σ 0 10 → τ 0 10 = σ 0 9 → CLs τ (σ 0 10) (paR (uC σ)).2 → Q (some (0, 0)) τ n) (hn : ¬ (paR (uC σ)).1 = 0 → ∀ τ, GR τ → (∀ c j, ¬ (c = 50 ∧ (1 ≤ j ∧ j ≤ 3)) → ¬ (c = σ 0 10 ∧ j = 4) → ¬ (σ 0 10 + 1 ≤ c ∧ c ≤ σ 0 10 + 4) → τ c j = σ c j) → τ 50 3 = 0 → Q (some (0, (paR (uC σ)).1)) τ n) : EVM (d + 6) 106 [(21, 0)] σ n Q := by
  show EV (d + 6) 106 0 [(21, 0), (9, 0), (9, 0)] [] σ n Q
  refine r_106_0 (hG := hG) (k := ?_)
  refine s_read (T := σ 0 10) (by omega) hG hB (fun τ R => ?_)
  obtain ⟨fr, g2, g3⟩ := R
  dsimp only [Option.toList_some, List.cons_append, List.nil_append]
  have hGτ : GR τ := GR.fr (fun c j => (decide (c = 50) && (decide (j = 1) || decide (j = 2))) || (decide (59 ≤ c) && decide (c ≤ 68) && !(decide (c = 59) && !decide (j = 4)) && !(decide (c = 64) && !decide (j = 4)))) hG (fun c j q => by
    by_cases hc : (c = 50 ∧ (j = 1 ∨ j = 2)) ∨ (c = σ 0 10 ∧ j = 4) ∨ (σ 0 10 + 1 ≤ c ∧ c ≤ σ 0 10 + 4)
    · exfalso
      simp only [Bool.or_eq_false_iff, Bool.and_eq_false_iff, Bool.or_eq_true, Bool.not_eq_false', Bool.and_eq_true, decide_eq_true_eq, decide_eq_false_iff_not, Bool.not_eq_true', Bool.not_eq_eq_eq_not, Bool.not_true, Bool.not_false] at q
      omega
    · exact fr c j (by omega) (by omega) (by omega)) (by decide)
  have e9 : τ 0 9 = σ 0 9 := fr 0 9 (by decide) (by omega) (by omega)
  have e10 : τ 0 10 = σ 0 10 := fr 0 10 (by decide) (by omega) (by omega)
  refine r_106_11 (hG := hGτ) (ht := fun c => ?_) (hf := fun c => ?_)
  · refine r_106_42 (k := hn c _ (GR.wr hGτ (by decide)) (fun c j q1 q2 q3 => ?_) wr_same)
    rw [wr_j (by omega)]
    exact fr c j (by omega) q2 q3
  · refine r_106_24 (k := ?_)
    have n1 : wrM τ 50 3 0 0 9 = σ 0 9 := by rw [wr_ne (by decide)]; exact e9
    have n2 : wrM τ 50 3 0 0 10 = σ 0 10 := by rw [wr_ne (by decide)]; exact e10
    rw [n1, n2, c]
    refine hz c _ (GR.wr (GR.wr (GR.wr hGτ (by decide)) (by decide)) (by decide)) (fun c j q1 q2 q3 q4 => ?_) ?_ ?_ ?_ ?_
    · rw [wr_j (by omega), wr_j (by omega), wr_j (by omega)]
      exact fr c j (by omega) q2 q3
    · rw [wr_ne (by decide), wr_ne (by decide), wr_same]
    · rw [wr_nej (by decide), wr_same]
    · rw [wr_same]
    · refine CLs_fr (g3 c) (fun c j h1 h2 => ?_)
      rw [wr_ne (by omega), wr_ne (by omega), wr_ne (by omega)]
