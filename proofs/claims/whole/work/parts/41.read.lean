/-! the reading of a text of fees: the class -/
/-- the tape in its reading: at a place, with a fault -/
def TS (σ0 σ : Mem) (a f : Int) : Prop := (∀ c j, ¬ (c = 50 ∧ (j = 1 ∨ j = 2)) → σ c j = σ0 c j) ∧ σ 50 1 = a ∧ σ 50 2 = f
def uC (σ : Mem) : Int → Int := uB (σ 51) (σ 50 3)
def BV (σ : Mem) : Prop := (0 ≤ σ 50 3 ∧ σ 50 3 ≤ 600) ∧ ∀ x, -128 ≤ σ 51 x ∧ σ 51 x ≤ 127
theorem BV.uv {σ : Mem} (h : BV σ) : UV (uC σ) (σ 50 3) := uB_V h.1 h.2
theorem TS.GR {σ0 σ : Mem} {a f : Int} (h : TS σ0 σ a f) (hG : GR σ0) : GR σ := GR.fr (fun c j => decide (c = 50) && (decide (j = 1) || decide (j = 2))) hG (fun c j q => h.1 c j (fun z => by rcases z with ⟨z1, z2 | z2⟩ <;> simp [z1, z2] at q)) (by decide)
theorem TS.at {σ0 σ : Mem} {a f b : Int} (h : TS σ0 σ a f) : TS σ0 (wrM σ 50 1 b) b f := ⟨fun c j q => by rw [wr_j (by omega)]; exact h.1 c j q, wr_same, by rw [wr_nej (by decide)]; exact h.2.2⟩
theorem TS.ft {σ0 σ : Mem} {a f b : Int} (h : TS σ0 σ a f) : TS σ0 (wrM σ 50 2 b) a b := ⟨fun c j q => by rw [wr_j (by omega)]; exact h.1 c j q, by rw [wr_nej (by decide)]; exact h.2.1, wr_same⟩
theorem TS.u {σ0 σ : Mem} {a f : Int} (h : TS σ0 σ a f) : uC σ = uC σ0 := by
  have e : σ 51 = σ0 51 := funext fun j => h.1 51 j (by omega)
  unfold uC; rw [e, h.1 50 3 (by decide)]
theorem TS.bv {σ0 σ : Mem} {a f : Int} (h : TS σ0 σ a f) (hB : BV σ0) : BV σ := by
  have e : σ 51 = σ0 51 := funext fun j => h.1 51 j (by omega)
  unfold BV; rw [e, h.1 50 3 (by decide)]; exact hB
set_option maxHeartbeats 2000000 in
theorem s_byteAt {d : Nat} {σ : Mem} {n : Nat} {Q : Pst} {x : Int} (hG : GR σ) (hB : BV σ) (k : ∀ v, v = (uC σ x : Int) → Q (some (0, v)) σ n) : EVM d 61 [(18, 50), (0, x)] σ n Q := by
  show EV d 61 0 [(18, 50), (0, x)] [] σ n Q
  refine r_61_0  (ht := fun c => ?_) (hf := fun c => ?_)
  · skip
    refine r_61_32  (k := ?_)
    exact k _ (by
      have hB1 := hB.1
      unfold uC uB
      first
      | (rw [if_neg (by omega)])
      | (rw [if_pos (by omega), Zand_255 (hB.2 x)]))
  · skip
    refine r_61_4  (ht := fun c => ?_) (hf := fun c => ?_)
    · skip
      refine r_61_32  (k := ?_)
      exact k _ (by
        have hB1 := hB.1
        unfold uC uB
        first
        | (rw [if_neg (by omega)])
        | (rw [if_pos (by omega), Zand_255 (hB.2 x)]))
    · skip
      refine r_61_12  (ht := fun c => ?_) (hf := fun c => ?_)
      · skip
        refine r_61_32  (k := ?_)
        exact k _ (by
          have hB1 := hB.1
          unfold uC uB
          first
          | (rw [if_neg (by omega)])
          | (rw [if_pos (by omega), Zand_255 (hB.2 x)]))
      · skip
        refine r_61_19 (hG := hG) (h0 := (by first | omega | (simp (disch := omega) only [Zadd_eq, Zsub_eq, Zmul_eq]; omega))) (k := ?_)
        exact k _ (by
          have hB1 := hB.1
          unfold uC uB
          first
          | (rw [if_neg (by omega)])
          | (rw [if_pos (by omega), Zand_255 (hB.2 x)]))
set_option maxHeartbeats 2000000 in
theorem l_skip {d : Nat} {n : Nat} {Q : Pst} {σ0 : Mem} {f : Int} (hG0 : GR σ0) (hB : BV σ0) : ∀ (k : Nat) (a : Int) (σ : Mem), TS σ0 σ a f → (0 ≤ a ∧ a ≤ σ0 50 3) → σ0 50 3 - a < k → (∀ τ, TS σ0 τ (skF (uC σ0) k a) f → Q none τ n) → EV (d + 1) 58 0 [(18, 50)] [] σ n Q := by
  intro k
  induction k with
  | zero => intros; exfalso; omega
  | succ k ih =>
    intro a σ hS ha hk hq
    have hB1 := hB.1
    have e3 := hS.1 50 3 (by decide)
    have e1 := hS.2.1
    have ue := u_end hB.uv ha.1
    refine r_58_0 (ht := fun c => ?_) (hf := fun c => ?_)
    · refine r_58_37 (k := hq σ ?_)
      rw [skF_s, if_neg (by have := ue.mpr (by omega); omega)]
      exact hS
    · refine r_58_11 (k := ?_)
      refine s_byteAt (hS.GR hG0) (hS.bv hB) (fun v ev => ?_)
      rw [hS.u, e1] at ev
      dsimp only [Option.toList_some, List.cons_append, List.nil_append]
      refine r_58_19 (ht := fun c2 => ?_) (hf := fun c2 => ?_)
      · refine r_58_37 (k := hq σ ?_)
        rw [skF_s, if_neg (by omega)]
        exact hS
      · refine r_58_24 (k := ?_)
        rw [e1, Zadd_eq (by omega) (by omega)]
        refine ih (a + 1) _ hS.at (by omega) (by omega) (fun τ h => hq τ ?_)
        rw [skF_s, if_pos (by omega)]
        exact h
theorem s_skip {d : Nat} {n : Nat} {Q : Pst} {σ0 σ : Mem} {a f : Int} (hG0 : GR σ0) (hB : BV σ0) (hS : TS σ0 σ a f) (ha : 0 ≤ a ∧ a ≤ σ0 50 3) (k : ∀ τ, TS σ0 τ (sk (uC σ0) a) f → Q none τ n) : EVM (d + 1) 58 [(18, 50)] σ n Q := by
  have hB1 := hB.1
  exact l_skip hG0 hB 700 a σ hS ha (by omega) k
theorem l_pass {d : Nat} {n : Nat} {Q : Pst} {σ0 : Mem} {f s : Int} (hG0 : GR σ0) (hB : BV σ0) : ∀ (k : Nat) (a : Int) (σ : Mem), TS σ0 σ a f → (0 ≤ a ∧ a ≤ σ0 50 3) → σ0 50 3 - a < k → (∀ τ, TS σ0 τ (ltF (uC σ0) k a) f → Q (some (0, s)) τ n) → EV (d + 2) 59 9 [(18, 50), (0, s)] [] σ n Q := by
  intro k
  induction k with
  | zero => intros; exfalso; omega
  | succ k ih =>
    intro a σ hS ha hk hq
    have hB1 := hB.1
    have e3 := hS.1 50 3 (by decide)
    have e1 := hS.2.1
    have ue := u_end hB.uv ha.1
    refine r_59_9 (ht := fun c => ?_) (hf := fun c => ?_)
    · refine r_59_47 (k := hq σ ?_)
      rw [ltF_s, if_neg (by have := ue.mpr (by omega); omega)]
      exact hS
    · refine r_59_20 (k := ?_)
      refine s_byteAt (hS.GR hG0) (hS.bv hB) (fun v ev => ?_)
      rw [hS.u, e1] at ev
      dsimp only [Option.toList_some, List.cons_append, List.nil_append]
      refine r_59_28 (k := ?_)
      refine s_isLetter (fun c2 => ?_) (fun c2 => ?_)
      · dsimp only [Option.toList_some, List.cons_append, List.nil_append]
        refine r_59_31 (ht := fun c => absurd c (by decide)) (hf := fun _ => ?_)
        refine r_59_34 (k := ?_)
        rw [e1, Zadd_eq (by omega) (by omega)]
        refine ih (a + 1) _ hS.at (by omega) (by omega) (fun τ h => hq τ ?_)
        rw [ltF_s, if_pos (by omega)]
        exact h
      · dsimp only [Option.toList_some, List.cons_append, List.nil_append]
        refine r_59_31 (ht := fun _ => ?_) (hf := fun c => absurd rfl c)
        refine r_59_47 (k := hq σ ?_)
        rw [ltF_s, if_neg (by omega)]
        exact hS
theorem s_pass {d : Nat} {n : Nat} {Q : Pst} {σ0 σ : Mem} {a f : Int} (hG0 : GR σ0) (hB : BV σ0) (hS : TS σ0 σ a f) (ha : 0 ≤ a ∧ a ≤ σ0 50 3) (k : ∀ τ, TS σ0 τ (lt (uC σ0) (sk (uC σ0) a)) f → Q (some (0, sk (uC σ0) a)) τ n) : EVM (d + 2) 59 [(18, 50)] σ n Q := by
  show EV (d + 2) 59 0 [(18, 50), (9, 0)] [] σ n Q
  have hB1 := hB.1
  have b1 := sk_b hB.uv ha.1 ha.2
  refine r_59_0 (k := ?_)
  refine s_skip hG0 hB hS ha (fun τ h => ?_)
  dsimp only [Option.toList_none, List.nil_append]
  refine r_59_4 (k := ?_)
  rw [h.2.1]
  exact l_pass hG0 hB 700 _ τ h (by omega) (by omega) k
theorem l_word {d : Nat} {n : Nat} {Q : Pst} {σ : Mem} {x s e : Int} (hG : GR σ) (hB : BV σ) (he : σ 50 1 = e) (hs : 0 ≤ s ∧ s ≤ 600) (hl : 0 ≤ slF x ∧ slF x ≤ 5) (hle : e - s = slF x) (ht : wB x (uC σ) s e = true → Q (some (0, 1)) σ n) (hf : ¬ wB x (uC σ) s e = true → Q (some (0, 0)) σ n) : ∀ (k j : Nat), slF x - j < k → (j : Int) ≤ slF x → (∀ i, 0 ≤ i → i < (j : Int) → uC σ (s + i) = scF x i) → EV (d + 1) 60 17 [(18, 50), (3, x), (0, s), (0, (j : Int))] [] σ n Q := by
  intro k
  induction k with
  | zero => intros; exfalso; omega
  | succ k ih =>
    intro j hk hj hi
    refine r_60_17 (ht := fun c => ?_) (hf := fun c => ?_)
    · exact r_60_48 (k := ht (wB_iff.mpr ⟨hle, fun i h0 h1 => hi i h0 (by omega)⟩))
    · refine r_60_25 (k := ?_)
      refine s_byteAt hG hB (fun v ev => ?_)
      rw [Zadd_eq (by omega) (by omega)] at ev
      dsimp only [Option.toList_some, List.cons_append, List.nil_append]
      refine r_60_32 (h0 := by omega) (ht := fun c2 => ?_) (hf := fun c2 => ?_)
      · refine r_60_42 (k := ?_)
        rw [Zadd_nat (by omega)]
        refine ih (j + 1) (by omega) (by omega) (fun i h0 h1 => ?_)
        by_cases q : i = (j : Int)
        · rw [q, ← ev, c2]
        · exact hi i h0 (by omega)
      · refine r_60_40 (k := hf (fun z => c2 ?_))
        rw [ev]
        exact (wB_iff.mp z).2 j (by omega) c
theorem s_isWord {d : Nat} {n : Nat} {Q : Pst} {σ : Mem} {x s e : Int} (hG : GR σ) (hB : BV σ) (he : σ 50 1 = e) (hs : 0 ≤ s ∧ s ≤ e ∧ e ≤ 600) (hl : 0 ≤ slF x ∧ slF x ≤ 5) (ht : wB x (uC σ) s e = true → Q (some (0, 1)) σ n) (hf : ¬ wB x (uC σ) s e = true → Q (some (0, 0)) σ n) : EVM (d + 1) 60 [(18, 50), (3, x), (0, s)] σ n Q := by
  show EV (d + 1) 60 0 [(18, 50), (3, x), (0, s), (9, 0)] [] σ n Q
  have z : Zsub (σ 50 1) s = e - s := by rw [he]; exact Zsub_eq (by omega) (by omega)
  refine r_60_0 (ht := fun c => ?_) (hf := fun c => ?_)
  · refine r_60_15 (k := ?_)
    exact l_word hG hB he (by omega) hl (by omega) ht hf 6 0 (by omega) (by omega) (fun i h0 h1 => by omega)
  · refine r_60_13 (k := hf (fun q => c ?_))
    rw [z]
    exact (wB_iff.mp q).1
theorem s_blame {d : Nat} {n : Nat} {Q : Pst} {σ0 σ : Mem} {a f w x : Int} (hS : TS σ0 σ a f) (hw : 1 ≤ w ∧ w ≤ 2) (hx : 0 ≤ x ∧ x ≤ 600) (k : ∀ τ, TS σ0 τ a (o0 f (w + 4 * x)) → Q none τ n) : EVM d 62 [(18, 50), (0, w), (0, x)] σ n Q := by
  show EV d 62 0 [(18, 50), (0, w), (0, x)] [] σ n Q
  have e2 := hS.2.2
  refine r_62_0 (ht := fun c => ?_) (hf := fun c => ?_)
  · refine r_62_16 (k := k σ ?_)
    unfold o0; rw [if_neg (by omega)]; exact hS
  · refine r_62_7 (k := k _ ?_)
    unfold o0; rw [if_pos (by omega), show Zadd w (Zmul 4 x) = w + 4 * x by (rw [Zmul_eq (by omega) (by omega), Zadd_eq (by omega) (by omega)])]
    exact hS.ft
theorem o0_00 {f : Int} : o0 f 0 = f := by unfold o0; split <;> omega
theorem l_num {d : Nat} {n : Nat} {Q : Pst} {σ0 : Mem} {f s lo hi : Int} (hG0 : GR σ0) (hB : BV σ0) (hs : 0 ≤ s) : ∀ (k : Nat) (a v : Int) (σ : Mem), TS σ0 σ a f → (s ≤ a ∧ a ≤ σ0 50 3) → σ0 50 3 - a < k → dgI (a - s) v → (∀ τ, TS σ0 τ (dgF (uC σ0) k a (a - s) v).1 f → EV (d + 2) 57 79 [(18, 50), (0, lo), (0, hi), (0, s), (0, (dgF (uC σ0) k a (a - s) v).2)] [] τ n Q) → EV (d + 2) 57 12 [(18, 50), (0, lo), (0, hi), (0, s), (0, v)] [] σ n Q := by
  intro k
  induction k with
  | zero => intros; exfalso; omega
  | succ k ih =>
    intro a v σ hS ha hk hd hq
    have hB1 := hB.1
    have e3 := hS.1 50 3 (by decide)
    have e1 := hS.2.1
    have ue := u_end hB.uv (x := a) (by omega)
    have zs : Zsub (σ 50 1) s = a - s := by rw [e1]; exact Zsub_eq (by omega) (by omega)
    have stop : ¬ (48 ≤ uC σ0 a ∧ uC σ0 a ≤ 57) → EV (d + 2) 57 79 [(18, 50), (0, lo), (0, hi), (0, s), (0, v)] [] σ n Q := fun h => by
      have q := hq σ (by rw [dgF_s, if_neg h]; exact hS)
      rw [dgF_s, if_neg h] at q
      exact q
    refine r_57_12 (ht := fun c => ?_) (hf := fun c => ?_)
    · exact stop (by have := ue.mpr (by omega); omega)
    · refine r_57_23 (k := ?_)
      refine s_byteAt (hS.GR hG0) (hS.bv hB) (fun w ew => ?_)
      rw [hS.u, e1] at ew
      dsimp only [Option.toList_some, List.cons_append, List.nil_append]
      refine r_57_31 (k := ?_)
      refine s_isDigit (fun c2 => ?_) (fun c2 => ?_)
      · dsimp only [Option.toList_some, List.cons_append, List.nil_append]
        refine r_57_34 (ht := fun c => absurd c (by decide)) (hf := fun _ => ?_)
        have hd2 := dgI_s hd (show 48 ≤ uC σ0 a ∧ uC σ0 a ≤ 57 by omega)
        have nx : ∀ v2, v2 = (if a - s < 5 then v * 10 + uC σ0 a - 48 else v) → EV (d + 2) 57 12 [(18, 50), (0, lo), (0, hi), (0, s), (0, v2)] [] (wrM σ 50 1 (a + 1)) n Q := fun v2 e2 => by
          rw [← e2] at hd2
          refine ih (a + 1) v2 _ hS.at (by omega) (by omega) (by rw [show a + 1 - s = a - s + 1 by omega]; exact hd2) ?_
          rw [dgF_s, if_pos (by omega), ← e2] at hq
          rw [show a + 1 - s = a - s + 1 by omega]
          exact hq
        refine r_57_37 (ht := fun c3 => ?_) (hf := fun c3 => ?_)
        · refine r_57_66 (k := ?_)
          rw [e1, Zadd_eq (by omega) (by omega)]
          exact nx v (by rw [if_neg (by omega)])
        · refine r_57_47 (k := ?_)
          refine s_byteAt (hS.GR hG0) (hS.bv hB) (fun w2 ew2 => ?_)
          rw [hS.u, e1] at ew2
          dsimp only [Option.toList_some, List.cons_append, List.nil_append]
          refine r_57_60 (k := ?_)
          unfold dgI at hd
          rw [e1, Zadd_eq (b := 1) (by omega) (by omega), Zmul_eq (by omega) (by omega), Zadd_eq (by omega) (by omega), Zsub_eq (by omega) (by omega)]
          exact nx _ (by rw [if_pos (by omega)]; omega)
      · dsimp only [Option.toList_some, List.cons_append, List.nil_append]
        refine r_57_34 (ht := fun _ => ?_) (hf := fun c => absurd rfl c)
        exact stop (by omega)
theorem s_number {d : Nat} {n : Nat} {Q : Pst} {σ0 σ : Mem} {a f lo hi : Int} (hG0 : GR σ0) (hB : BV σ0) (hS : TS σ0 σ a f) (ha : 0 ≤ a ∧ a ≤ σ0 50 3) (k : ∀ τ, TS σ0 τ (dgE (uC σ0) a) (o0 f (nmF (uC σ0) a lo hi)) → Q (some (0, dgV (uC σ0) a)) τ n) : EVM (d + 2) 57 [(18, 50), (0, lo), (0, hi)] σ n Q := by
  show EV (d + 2) 57 0 [(18, 50), (0, lo), (0, hi), (9, 0), (9, 0)] [] σ n Q
  have hB1 := hB.1
  have b1 := dg_b hB.uv ha.1 ha.2
  refine r_57_0 (k := ?_)
  refine s_skip hG0 hB hS ha (fun τ h => ?_)
  dsimp only [Option.toList_none, List.nil_append]
  refine r_57_4 (k := ?_)
  rw [h.2.1]
  refine l_num hG0 hB (by omega) 700 (sk (uC σ0) a) 0 τ h (by omega) (by omega) (by unfold dgI; omega) ?_
  rw [Int.sub_self]
  intro τ2 h2
  have e1 : τ2 50 1 = dgE (uC σ0) a := h2.2.1
  have zs : Zsub (τ2 50 1) (sk (uC σ0) a) = dgE (uC σ0) a - sk (uC σ0) a := by rw [e1]; exact Zsub_eq (by omega) (by omega)
  show EV (d + 2) 57 79 [(18, 50), (0, lo), (0, hi), (0, sk (uC σ0) a), (0, dgV (uC σ0) a)] [] τ2 n Q
  have h2 : TS σ0 τ2 (dgE (uC σ0) a) f := h2
  refine r_57_79 (ht := fun c => ?_) (hf := fun c => ?_)
  · have bad : 5 < dgE (uC σ0) a - sk (uC σ0) a ∨ ¬ (lo ≤ dgV (uC σ0) a ∧ dgV (uC σ0) a ≤ hi) → EV (d + 2) 57 116 [(18, 50), (0, lo), (0, hi), (0, sk (uC σ0) a), (0, dgV (uC σ0) a)] [] τ2 n Q := fun hb => by
      refine r_57_116 (k := ?_)
      refine s_blame h2 (by omega) (by omega) (fun τ3 h3 => ?_)
      dsimp only [Option.toList_none, List.nil_append]
      refine r_57_122 (k := k τ3 ?_)
      unfold nmF
      rw [if_neg (by omega), if_pos hb]
      exact h3
    refine r_57_96 (ht := fun c2 => ?_) (hf := fun c2 => ?_)
    · exact bad (by omega)
    · refine r_57_106 (k := ?_)
      refine s_within (fun c3 => ?_) (fun c3 => ?_)
      · dsimp only [Option.toList_some, List.cons_append, List.nil_append]
        refine r_57_113 (ht := fun _ => ?_) (hf := fun c => absurd c (by decide))
        refine r_57_122 (k := k τ2 ?_)
        unfold nmF
        rw [if_neg (by omega), if_neg (by omega), o0_00]
        exact h2
      · dsimp only [Option.toList_some, List.cons_append, List.nil_append]
        refine r_57_113 (ht := fun c => absurd rfl c) (hf := fun _ => ?_)
        exact bad (by omega)
  · refine r_57_87 (k := ?_)
    refine s_blame h2 (by omega) (by omega) (fun τ3 h3 => ?_)
    dsimp only [Option.toList_none, List.nil_append]
    refine r_57_93 (k := k τ3 ?_)
    unfold nmF
    rw [if_pos (by omega)]
    exact h3
theorem s_from {d : Nat} {n : Nat} {Q : Pst} {σ0 σ : Mem} {a f : Int} (hG0 : GR σ0) (hB : BV σ0) (hS : TS σ0 σ a f) (ha : 0 ≤ a ∧ a ≤ σ0 50 3) (k : ∀ τ, TS σ0 τ (ce (uC σ0) a) (o0 f (f0 (uC σ0) a)) → Q none τ n) : EVM (d + 3) 55 [(18, 50)] σ n Q := by
  show EV (d + 3) 55 0 [(18, 50), (9, 0)] [] σ n Q
  have hB1 := hB.1
  have b1 := cl_b hB.uv ha.1 ha.2
  refine r_55_0 (k := ?_)
  refine s_pass hG0 hB hS ha (fun τ h => ?_)
  dsimp only [Option.toList_some, List.cons_append, List.nil_append]
  have h : TS σ0 τ (ce (uC σ0) a) f := h
  refine r_55_4 (k := ?_)
  refine s_isWord (h.GR hG0) (h.bv hB) h.2.1 (by omega) (by decide) (fun c => ?_) (fun c => ?_)
  · dsimp only [Option.toList_some, List.cons_append, List.nil_append]
    rw [h.u] at c
    refine r_55_12 (ht := fun _ => ?_) (hf := fun c => absurd c (by decide))
    refine r_55_21 (k := k τ ?_)
    unfold f0
    rw [if_pos c, o0_00]
    exact h
  · dsimp only [Option.toList_some, List.cons_append, List.nil_append]
    rw [h.u] at c
    refine r_55_12 (ht := fun c => absurd rfl c) (hf := fun _ => ?_)
    refine r_55_15 (k := ?_)
    refine s_blame h (by omega) (by omega) (fun τ3 h3 => ?_)
    dsimp only [Option.toList_none, List.nil_append]
    refine r_55_21 (k := k τ3 ?_)
    unfold f0
    rw [if_neg c]
    exact h3
set_option maxHeartbeats 2000000 in
theorem s_kind {d : Nat} {n : Nat} {Q : Pst} {σ0 σ : Mem} {a f : Int} (hG0 : GR σ0) (hB : BV σ0) (hS : TS σ0 σ a f) (ha : 0 ≤ a ∧ a ≤ σ0 50 3) (k : ∀ τ, TS σ0 τ (lt (uC σ0) (sk (uC σ0) a)) (o0 f (if kd (uC σ0) (sk (uC σ0) a) (lt (uC σ0) (sk (uC σ0) a)) = -1 then 1 + 4 * sk (uC σ0) a else 0)) → Q (some (0, kd (uC σ0) (sk (uC σ0) a) (lt (uC σ0) (sk (uC σ0) a)))) τ n) : EVM (d + 3) 56 [(18, 50)] σ n Q := by
  show EV (d + 3) 56 0 [(18, 50), (9, 0), (9, 0)] [] σ n Q
  have hB1 := hB.1
  have b1 := sk_b hB.uv ha.1 ha.2
  have b2 := lt_b hB.uv (a := sk (uC σ0) a) (by omega) (by omega)
  refine r_56_0 (k := ?_)
  refine s_pass hG0 hB hS ha (fun τ h => ?_)
  dsimp only [Option.toList_some, List.cons_append, List.nil_append]
  refine r_56_4 (k := ?_)
  have kk := kd_b (u := uC σ0) (s := sk (uC σ0) a) (e := lt (uC σ0) (sk (uC σ0) a))
  refine r_56_7 (ht := fun c => absurd c (by decide)) (hf := fun _ => ?_)
  refine r_56_13 (k := ?_)
  refine r_65_0 (k := ?_)
  refine r_65_36 (k := ?_)
  dsimp only [Option.toList_some, List.cons_append, List.nil_append]
  refine r_56_18 (k := ?_)
  refine s_isWord (h.GR hG0) (h.bv hB) h.2.1 (by omega) (by decide) (fun w0 => ?_) (fun w0 => ?_)
  · dsimp only [Option.toList_some, List.cons_append, List.nil_append]
    rw [h.u] at w0
    have ek : kd (uC σ0) (sk (uC σ0) a) (lt (uC σ0) (sk (uC σ0) a)) = 0 := by unfold kd; rw [if_pos w0]
    refine r_56_22 (ht := fun c => absurd c (by decide)) (hf := fun _ => ?_)
    refine r_56_25 (k := ?_)
    have q := k τ (by rw [if_neg (by omega), o0_00]; exact h)
    rw [ek] at q
    exact q
  dsimp only [Option.toList_some, List.cons_append, List.nil_append]
  rw [h.u] at w0
  refine r_56_22 (ht := fun _ => ?_) (hf := fun c => absurd rfl c)
  refine r_56_27 (k := ?_)
  rw [show Zadd 0 1 = 1 from by decide]
  refine r_56_7 (ht := fun c => absurd c (by decide)) (hf := fun _ => ?_)
  refine r_56_13 (k := ?_)
  refine r_65_0 (k := ?_)
  refine r_65_39 (k := ?_)
  dsimp only [Option.toList_some, List.cons_append, List.nil_append]
  refine r_56_18 (k := ?_)
  refine s_isWord (h.GR hG0) (h.bv hB) h.2.1 (by omega) (by decide) (fun w1 => ?_) (fun w1 => ?_)
  · dsimp only [Option.toList_some, List.cons_append, List.nil_append]
    rw [h.u] at w1
    have ek : kd (uC σ0) (sk (uC σ0) a) (lt (uC σ0) (sk (uC σ0) a)) = 1 := by unfold kd; rw [if_neg w0, if_pos w1]
    refine r_56_22 (ht := fun c => absurd c (by decide)) (hf := fun _ => ?_)
    refine r_56_25 (k := ?_)
    have q := k τ (by rw [if_neg (by omega), o0_00]; exact h)
    rw [ek] at q
    exact q
  dsimp only [Option.toList_some, List.cons_append, List.nil_append]
  rw [h.u] at w1
  refine r_56_22 (ht := fun _ => ?_) (hf := fun c => absurd rfl c)
  refine r_56_27 (k := ?_)
  rw [show Zadd 1 1 = 2 from by decide]
  refine r_56_7 (ht := fun c => absurd c (by decide)) (hf := fun _ => ?_)
  refine r_56_13 (k := ?_)
  refine r_65_0 (k := ?_)
  refine r_65_42 (k := ?_)
  dsimp only [Option.toList_some, List.cons_append, List.nil_append]
  refine r_56_18 (k := ?_)
  refine s_isWord (h.GR hG0) (h.bv hB) h.2.1 (by omega) (by decide) (fun w2 => ?_) (fun w2 => ?_)
  · dsimp only [Option.toList_some, List.cons_append, List.nil_append]
    rw [h.u] at w2
    have ek : kd (uC σ0) (sk (uC σ0) a) (lt (uC σ0) (sk (uC σ0) a)) = 2 := by unfold kd; rw [if_neg w0, if_neg w1, if_pos w2]
    refine r_56_22 (ht := fun c => absurd c (by decide)) (hf := fun _ => ?_)
    refine r_56_25 (k := ?_)
    have q := k τ (by rw [if_neg (by omega), o0_00]; exact h)
    rw [ek] at q
    exact q
  dsimp only [Option.toList_some, List.cons_append, List.nil_append]
  rw [h.u] at w2
  refine r_56_22 (ht := fun _ => ?_) (hf := fun c => absurd rfl c)
  refine r_56_27 (k := ?_)
  rw [show Zadd 2 1 = 3 from by decide]
  refine r_56_7 (ht := fun c => absurd c (by decide)) (hf := fun _ => ?_)
  refine r_56_13 (k := ?_)
  refine r_65_0 (k := ?_)
  refine r_65_45 (k := ?_)
  dsimp only [Option.toList_some, List.cons_append, List.nil_append]
  refine r_56_18 (k := ?_)
  refine s_isWord (h.GR hG0) (h.bv hB) h.2.1 (by omega) (by decide) (fun w3 => ?_) (fun w3 => ?_)
  · dsimp only [Option.toList_some, List.cons_append, List.nil_append]
    rw [h.u] at w3
    have ek : kd (uC σ0) (sk (uC σ0) a) (lt (uC σ0) (sk (uC σ0) a)) = 3 := by unfold kd; rw [if_neg w0, if_neg w1, if_neg w2, if_pos w3]
    refine r_56_22 (ht := fun c => absurd c (by decide)) (hf := fun _ => ?_)
    refine r_56_25 (k := ?_)
    have q := k τ (by rw [if_neg (by omega), o0_00]; exact h)
    rw [ek] at q
    exact q
  dsimp only [Option.toList_some, List.cons_append, List.nil_append]
  rw [h.u] at w3
  refine r_56_22 (ht := fun _ => ?_) (hf := fun c => absurd rfl c)
  refine r_56_27 (k := ?_)
  rw [show Zadd 3 1 = 4 from by decide]
  refine r_56_7 (ht := fun c => absurd c (by decide)) (hf := fun _ => ?_)
  refine r_56_13 (k := ?_)
  refine r_65_0 (k := ?_)
  refine r_65_48 (k := ?_)
  dsimp only [Option.toList_some, List.cons_append, List.nil_append]
  refine r_56_18 (k := ?_)
  refine s_isWord (h.GR hG0) (h.bv hB) h.2.1 (by omega) (by decide) (fun w4 => ?_) (fun w4 => ?_)
  · dsimp only [Option.toList_some, List.cons_append, List.nil_append]
    rw [h.u] at w4
    have ek : kd (uC σ0) (sk (uC σ0) a) (lt (uC σ0) (sk (uC σ0) a)) = 4 := by unfold kd; rw [if_neg w0, if_neg w1, if_neg w2, if_neg w3, if_pos w4]
    refine r_56_22 (ht := fun c => absurd c (by decide)) (hf := fun _ => ?_)
    refine r_56_25 (k := ?_)
    have q := k τ (by rw [if_neg (by omega), o0_00]; exact h)
    rw [ek] at q
    exact q
  dsimp only [Option.toList_some, List.cons_append, List.nil_append]
  rw [h.u] at w4
  refine r_56_22 (ht := fun _ => ?_) (hf := fun c => absurd rfl c)
  refine r_56_27 (k := ?_)
  rw [show Zadd 4 1 = 5 from by decide]
  refine r_56_7 (ht := fun c => absurd c (by decide)) (hf := fun _ => ?_)
  refine r_56_13 (k := ?_)
  refine r_65_0 (k := ?_)
  refine r_65_51 (k := ?_)
  dsimp only [Option.toList_some, List.cons_append, List.nil_append]
  refine r_56_18 (k := ?_)
  refine s_isWord (h.GR hG0) (h.bv hB) h.2.1 (by omega) (by decide) (fun w5 => ?_) (fun w5 => ?_)
  · dsimp only [Option.toList_some, List.cons_append, List.nil_append]
    rw [h.u] at w5
    have ek : kd (uC σ0) (sk (uC σ0) a) (lt (uC σ0) (sk (uC σ0) a)) = 5 := by unfold kd; rw [if_neg w0, if_neg w1, if_neg w2, if_neg w3, if_neg w4, if_pos w5]
    refine r_56_22 (ht := fun c => absurd c (by decide)) (hf := fun _ => ?_)
    refine r_56_25 (k := ?_)
    have q := k τ (by rw [if_neg (by omega), o0_00]; exact h)
    rw [ek] at q
    exact q
  dsimp only [Option.toList_some, List.cons_append, List.nil_append]
  rw [h.u] at w5
  refine r_56_22 (ht := fun _ => ?_) (hf := fun c => absurd rfl c)
  refine r_56_27 (k := ?_)
  rw [show Zadd 5 1 = 6 from by decide]
  have ek : kd (uC σ0) (sk (uC σ0) a) (lt (uC σ0) (sk (uC σ0) a)) = -1 := by unfold kd; rw [if_neg w0, if_neg w1, if_neg w2, if_neg w3, if_neg w4, if_neg w5]
  refine r_56_7 (ht := fun _ => ?_) (hf := fun c => absurd c (by decide))
  refine r_56_33 (k := ?_)
  refine s_blame h (by omega) (by omega) (fun τ3 h3 => ?_)
  dsimp only [Option.toList_none, List.nil_append]
  refine r_56_39 (k := ?_)
  have q := k τ3 (by rw [if_pos ek]; exact h3)
  rw [ek] at q
  exact q
set_option maxHeartbeats 2000000 in
theorem s_lowest {d : Nat} {σ : Mem} {n : Nat} {Q : Pst} {x : Int}  (k : ∀ v, v = (loK x : Int) → Q (some (0, v)) σ n) : EVM d 66 [(0, x)] σ n Q := by
  show EV d 66 0 [(0, x)] [] σ n Q
  refine r_66_0  (ht := fun c => ?_) (hf := fun c => ?_)
  · skip
    refine r_66_10  (k := ?_)
    exact k _ (by unfold loK; first | rw [if_pos (by omega)] | rw [if_neg (by omega)])
  · skip
    refine r_66_5  (ht := fun c => ?_) (hf := fun c => ?_)
    · skip
      refine r_66_15  (k := ?_)
      exact k _ (by unfold loK; first | rw [if_pos (by omega)] | rw [if_neg (by omega)])
    · skip
      refine r_66_10  (k := ?_)
      exact k _ (by unfold loK; first | rw [if_pos (by omega)] | rw [if_neg (by omega)])
set_option maxHeartbeats 2000000 in
theorem s_highest {d : Nat} {σ : Mem} {n : Nat} {Q : Pst} {x : Int}  (k : ∀ v, v = (hiK x : Int) → Q (some (0, v)) σ n) : EVM d 67 [(0, x)] σ n Q := by
  show EV d 67 0 [(0, x)] [] σ n Q
  refine r_67_0  (k := ?_)
  rw [lk_cons]
  refine ite_two (fun c => ?_) (fun c => ?_)
  · skip
    refine r_67_36  (k := ?_)
    exact k _ (by unfold hiK; (repeat' split) <;> omega)
  · skip
    rw [lk_cons]
    refine ite_two (fun c => ?_) (fun c => ?_)
    · skip
      refine r_67_40  (k := ?_)
      exact k _ (by unfold hiK; (repeat' split) <;> omega)
    · skip
      rw [lk_cons]
      refine ite_two (fun c => ?_) (fun c => ?_)
      · skip
        refine r_67_43  (k := ?_)
        exact k _ (by unfold hiK; (repeat' split) <;> omega)
      · skip
        rw [lk_cons]
        refine ite_two (fun c => ?_) (fun c => ?_)
        · skip
          refine r_67_43  (k := ?_)
          exact k _ (by unfold hiK; (repeat' split) <;> omega)
        · skip
          rw [lk_cons]
          refine ite_two (fun c => ?_) (fun c => ?_)
          · skip
            refine r_67_47  (k := ?_)
            exact k _ (by unfold hiK; (repeat' split) <;> omega)
          · skip
            rw [lk_nil]
            refine r_67_51  (k := ?_)
            exact k _ (by unfold hiK; (repeat' split) <;> omega)
/-- the clauses of the class's text at T -/
def CLs (σ : Mem) (T : Int) (l : List Cl) : Prop := σ T 4 = (l.length : Int) ∧ ∀ (i : Nat) (e : Cl), l[i]? = some e → σ (T + 1) (i : Int) = e.1 ∧ σ (T + 2) (i : Int) = e.2.1 ∧ σ (T + 3) (i : Int) = e.2.2.1 ∧ σ (T + 4) (i : Int) = e.2.2.2
set_option maxHeartbeats 2000000 in
theorem s_cadd59 {d : Nat} {n : Nat} {Q : Pst} {σ : Mem} {l : List Cl} {y key m s : Int} (hG : GR σ) (hC : CLs σ 59 l) (hl : l.length < 60) (k : ∀ τ, (∀ c j, ¬ (c = 59 ∧ j = 4) → ¬ (60 ≤ c ∧ c ≤ 63) → τ c j = σ c j) → CLs τ 59 (l ++ [(y, key, m, s)]) → Q none τ n) : EVM d 15 [(12, 59), (0, y), (0, key), (0, m), (0, s)] σ n Q := by
  show EV d 15 0 [(12, 59), (0, y), (0, key), (0, m), (0, s)] [] σ n Q
  have e := hC.1
  refine r59_15_0 (ht := fun c => by exfalso; omega) (hf := fun c => ?_)
  refine r59_15_9 (hG := hG) (h0 := by omega) (k := ?_)
  rw [e, Zadd_eq (by omega) (by omega)]
  refine k _ (fun c j q1 q2 => ?_) ⟨?_, fun i x hx => ?_⟩
  · rw [wr_j q1, wr_ne (by omega), wr_ne (by omega), wr_ne (by omega), wr_ne (by omega)]
  · rw [wr_same, List.length_append]; simp
  · by_cases q : i < l.length
    · rw [List.getElem?_append_left q] at hx
      obtain ⟨p1, p2, p3, p4⟩ := hC.2 i x hx
      refine ⟨?_, ?_, ?_, ?_⟩
      · rw [wr_ne (by decide), wr_ne (by decide), wr_ne (by decide), wr_ne (by decide), wr_j (by omega)]; exact p1
      · rw [wr_ne (by decide), wr_ne (by decide), wr_ne (by decide), wr_j (by omega), wr_ne (by decide)]; exact p2
      · rw [wr_ne (by decide), wr_ne (by decide), wr_j (by omega), wr_ne (by decide), wr_ne (by decide)]; exact p3
      · rw [wr_ne (by decide), wr_j (by omega), wr_ne (by decide), wr_ne (by decide), wr_ne (by decide)]; exact p4
    · rw [List.getElem?_append_right (by omega)] at hx
      have q2 : i - l.length = 0 := by
        cases hq : i - l.length with
        | zero => rfl
        | succ m => rw [hq] at hx; simp at hx
      rw [q2] at hx
      have e2 : x = (y, key, m, s) := by simpa using hx.symm
      have q3 : i = l.length := by omega
      subst e2
      rw [q3]
      refine ⟨?_, ?_, ?_, ?_⟩
      · rw [wr_ne (by decide), wr_ne (by decide), wr_ne (by decide), wr_ne (by decide)]; exact wr_same
      · rw [wr_ne (by decide), wr_ne (by decide), wr_ne (by decide)]; exact wr_same
      · rw [wr_ne (by decide), wr_ne (by decide)]; exact wr_same
      · rw [wr_ne (by decide)]; exact wr_same
set_option maxHeartbeats 2000000 in
theorem s_cadd64 {d : Nat} {n : Nat} {Q : Pst} {σ : Mem} {l : List Cl} {y key m s : Int} (hG : GR σ) (hC : CLs σ 64 l) (hl : l.length < 60) (k : ∀ τ, (∀ c j, ¬ (c = 64 ∧ j = 4) → ¬ (65 ≤ c ∧ c ≤ 68) → τ c j = σ c j) → CLs τ 64 (l ++ [(y, key, m, s)]) → Q none τ n) : EVM d 15 [(12, 64), (0, y), (0, key), (0, m), (0, s)] σ n Q := by
  show EV d 15 0 [(12, 64), (0, y), (0, key), (0, m), (0, s)] [] σ n Q
  have e := hC.1
  refine r64_15_0 (ht := fun c => by exfalso; omega) (hf := fun c => ?_)
  refine r64_15_9 (hG := hG) (h0 := by omega) (k := ?_)
  rw [e, Zadd_eq (by omega) (by omega)]
  refine k _ (fun c j q1 q2 => ?_) ⟨?_, fun i x hx => ?_⟩
  · rw [wr_j q1, wr_ne (by omega), wr_ne (by omega), wr_ne (by omega), wr_ne (by omega)]
  · rw [wr_same, List.length_append]; simp
  · by_cases q : i < l.length
    · rw [List.getElem?_append_left q] at hx
      obtain ⟨p1, p2, p3, p4⟩ := hC.2 i x hx
      refine ⟨?_, ?_, ?_, ?_⟩
      · rw [wr_ne (by decide), wr_ne (by decide), wr_ne (by decide), wr_ne (by decide), wr_j (by omega)]; exact p1
      · rw [wr_ne (by decide), wr_ne (by decide), wr_ne (by decide), wr_j (by omega), wr_ne (by decide)]; exact p2
      · rw [wr_ne (by decide), wr_ne (by decide), wr_j (by omega), wr_ne (by decide), wr_ne (by decide)]; exact p3
      · rw [wr_ne (by decide), wr_j (by omega), wr_ne (by decide), wr_ne (by decide), wr_ne (by decide)]; exact p4
    · rw [List.getElem?_append_right (by omega)] at hx
      have q2 : i - l.length = 0 := by
        cases hq : i - l.length with
        | zero => rfl
        | succ m => rw [hq] at hx; simp at hx
      rw [q2] at hx
      have e2 : x = (y, key, m, s) := by simpa using hx.symm
      have q3 : i = l.length := by omega
      subst e2
      rw [q3]
      refine ⟨?_, ?_, ?_, ?_⟩
      · rw [wr_ne (by decide), wr_ne (by decide), wr_ne (by decide), wr_ne (by decide)]; exact wr_same
      · rw [wr_ne (by decide), wr_ne (by decide), wr_ne (by decide)]; exact wr_same
      · rw [wr_ne (by decide), wr_ne (by decide)]; exact wr_same
      · rw [wr_ne (by decide)]; exact wr_same
