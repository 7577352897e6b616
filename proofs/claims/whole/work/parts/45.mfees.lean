/-! fees: the reference, whole -/
/-- what is read behind a clause -/
def paT (u : Int → Int) (f : Nat) (p : Int) (l : List Cl) : Int × List Cl := if u (sk u p) = -1 then (0, l) else if u (sk u p) = 59 then paF u f (sk u p + 1) l else (1 + 4 * sk u p, l)
theorem paF_T {u : Int → Int} {f : Nat} {a : Int} {l : List Cl} : paF u (f + 1) a l = if cf u a = 0 then paT u f (ca4 u a) (l ++ [ccl u a]) else (cf u a, l) := rfl
def RDM (σ0 τ : Mem) (f : Int) (l : List Cl) : Prop := (∀ c j, ¬ (c = 69 ∧ (j = 41 ∨ j = 42 ∨ j = 54 ∨ j = 48)) → ¬ (103 ≤ c ∧ c ≤ 106) → τ c j = σ0 c j) ∧ τ 69 42 = f ∧ (f = 0 → CLM τ l)
theorem RDM.GR {σ0 τ : Mem} {f : Int} {l : List Cl} (h : RDM σ0 τ f l) (hG : GR σ0) : GR τ := GR.fr (fun c j => (decide (c = 69) && (decide (j = 41) || (decide (j = 42) || (decide (j = 54) || decide (j = 48))))) || (decide (103 ≤ c) && decide (c ≤ 106))) hG (fun c j q => h.1 c j (fun z => by rcases z with ⟨z1, z2 | z2 | z2 | z2⟩ <;> simp [z1, z2] at q) (fun z => by simp [z.1, z.2] at q)) (by decide)
theorem RDM.eu {σ0 τ : Mem} {f : Int} {l : List Cl} (h : RDM σ0 τ f l) : uM τ = uM σ0 := by
  have e : τ 98 = σ0 98 := funext fun j => h.1 98 j (by omega) (by omega)
  unfold uM; rw [e, h.1 69 40 (by decide) (by decide)]
theorem RDM.bm {σ0 τ : Mem} {f : Int} {l : List Cl} (h : RDM σ0 τ f l) (hB : BM σ0) : BM τ := by
  have e : τ 98 = σ0 98 := funext fun j => h.1 98 j (by omega) (by omega)
  have e2 : τ 107 = σ0 107 := funext fun j => h.1 107 j (by omega) (by omega)
  unfold BM; rw [e, e2, h.1 69 40 (by decide) (by decide)]; exact hB
theorem CLM_fr {σ τ : Mem} {l : List Cl} (h : CLM σ l) (h48 : τ 69 48 = σ 69 48) (hf : ∀ c j, 103 ≤ c → c ≤ 106 → τ c j = σ c j) : CLM τ l := by
  refine ⟨by rw [h48]; exact h.1, fun i e he => ?_⟩
  rw [hf _ _ (by omega) (by omega), hf _ _ (by omega) (by omega), hf _ _ (by omega) (by omega), hf _ _ (by omega) (by omega)]
  exact h.2 i e he
theorem RDM.rs {σ0 σ τ : Mem} {f g a sd : Int} {l : List Cl} (h : RDM σ0 σ f l) (hf : f = 0) (S : RS σ τ a g sd) : RDM σ0 τ g l := ⟨fun c j q1 q2 => by rw [S.1 c j (by omega)]; exact h.1 c j q1 q2, S.2.2.1, fun _ => CLM_fr (h.2.2 hf) (S.1 69 48 (by decide)) (fun c j h1 h2 => S.1 c j (by omega))⟩
set_option maxHeartbeats 4000000 in
theorem l_feesM {d : Nat} {n : Nat} {Q : Pst} {σ0 : Mem} (hG0 : GR σ0) (hB0 : BM σ0) : ∀ (f : Nat) (p : Int) (l : List Cl) (l2 : AV) (σ : Mem), RDM σ0 σ 0 l → σ 69 41 = p → (0 ≤ p ∧ p ≤ σ0 69 40) → σ0 69 40 - p < f → (10 * (l.length : Int) ≤ p + 1) → (∀ τ l2, RDM σ0 τ (paT (uM σ0) f p l).1 (paT (uM σ0) f p l).2 → EV (d + 3) 168 88 [(22, 69), (0, if (paT (uM σ0) f p l).1 = 0 then 1 else 0), l2] [] τ n Q) → EV (d + 3) 168 36 [(22, 69), (0, 1), l2] [] σ n Q := by
  intro f
  induction f with
  | zero => intros; exfalso; omega
  | succ f ih =>
    intro p l l2 σ hR hp1 hp hk h10 hq
    have hB1 := hB0.1
    have hG := hR.GR hG0
    have hB := hR.bm hB0
    have eu := hR.eu
    have e40 : σ 69 40 = σ0 69 40 := hR.1 69 40 (by decide) (by decide)
    have b := sk_b hB0.uv hp.1 hp.2
    have ue := u_end hB0.uv (x := sk (uM σ0) p) (by omega)
    have i1 := sk_i hB0.uv hp.1 hp.2
    have S0 : RS σ σ p 0 (σ 69 54) := ⟨fun _ _ _ => rfl, hp1, hR.2.1, rfl⟩
    refine r_168_36 (ht := fun c => absurd c (by decide)) (hf := fun _ => ?_)
    refine r_168_40 (k := ?_)
    refine m_see hG hB S0 (by omega) (fun τ1 S1 => ?_)
    rw [eu] at S1
    rw [eu]
    dsimp only [Option.toList_some, List.cons_append, List.nil_append]
    refine r_168_44 (ht := fun c => ?_) (hf := fun c => ?_)
    · have q := hq τ1 l2
      unfold paT at q
      rw [if_pos c] at q
      have q2 := q (hR.rs rfl S1)
      rw [if_pos rfl] at q2
      exact q2
    · have hlt : sk (uM σ0) p < σ0 69 40 := by
        rcases Int.lt_or_le (sk (uM σ0) p) (σ0 69 40) with q | q
        · exact q
        · exact absurd (ue.mpr q) c
      refine r_168_48 (k := ?_)
      refine m_see hG hB S1 (by omega) (fun τ2 S2 => ?_)
      rw [eu, i1] at S2
      rw [eu, i1]
      dsimp only [Option.toList_some, List.cons_append, List.nil_append]
      refine r_168_52 (ht := fun c2 => ?_) (hf := fun c2 => ?_)
      · refine r_168_75 (k := ?_)
        rw [S2.2.1]
        refine m_fails S2 (by omega) (by omega) (fun τ3 S3 => ?_)
        rw [o0_z] at S3
        dsimp only [Option.toList_some, List.cons_append, List.nil_append]
        refine r_168_84 (k := ?_)
        refine r_168_36 (ht := fun _ => ?_) (hf := fun c => absurd rfl c)
        have q := hq τ3 l2
        unfold paT at q
        rw [if_neg c, if_neg c2] at q
        have q2 := q (hR.rs rfl S3)
        rw [if_neg (by show ¬ 1 + 4 * sk (uM σ0) p = 0; omega)] at q2
        exact q2
      · refine r_168_57 (k := ?_)
        rw [S2.2.1, Zadd_eq (by omega) (by omega)]
        have S3 := S2.at (b := sk (uM σ0) p + 1)
        have R3 := hR.rs rfl S3
        have hC3 := R3.2.2 rfl
        have e40' : (wrM τ2 69 41 (sk (uM σ0) p + 1)) 69 40 = σ0 69 40 := R3.1 69 40 (by decide) (by decide)
        unfold paT at hq
        rw [if_neg c, if_pos c2, paF_T] at hq
        refine m_clause (a := sk (uM σ0) p + 1) (l := l) (R3.GR hG0) (R3.bm hB0) S3.2.1 (by rw [e40']; omega) S3.2.2.1 hC3 (fun cz => ?_) (fun cz τ4 g1 g2 g3 g4 => ?_) (fun cz τ4 g1 g2 => ?_)
        · rw [R3.eu] at cz
          have h9 := cf_9 hB0.uv (a := sk (uM σ0) p + 1) (by omega) (by omega) cz
          have bb := cl_b hB0.uv (a := sk (uM σ0) p + 1) (by omega) (by omega)
          omega
        · rw [R3.eu] at cz g2 g4
          have h9 := cf_9 hB0.uv (a := sk (uM σ0) p + 1) (by omega) (by omega) cz
          have bb := cl_b hB0.uv (a := sk (uM σ0) p + 1) (by omega) (by omega)
          rw [if_pos cz] at hq
          dsimp only [Option.toList_some, List.cons_append, List.nil_append]
          refine r_168_71 (k := ?_)
          exact ih (ca4 (uM σ0) (sk (uM σ0) p + 1)) _ _ τ4 ⟨fun c j q1 q2 => by rw [g1 c j q1 q2]; exact R3.1 c j q1 q2, g3, fun _ => g4⟩ g2 (by omega) (by omega) (by rw [List.length_append]; simp; omega) hq
        · rw [R3.eu] at cz g2
          rw [if_neg cz] at hq
          dsimp only [Option.toList_some, List.cons_append, List.nil_append]
          refine r_168_71 (k := ?_)
          refine r_168_36 (ht := fun _ => ?_) (hf := fun c => absurd rfl c)
          have q2 := hq τ4 l2 ⟨fun c j q1 q2 => by rw [g1 c j (by omega)]; exact R3.1 c j q1 q2, g2, fun z => absurd z cz⟩
          rw [if_neg (by exact cz)] at q2
          exact q2
/-- the clauses that hold, by the reference -/
def CLK (σ : Mem) (l : List Cl) : Prop := σ 69 43 = (l.length : Int) ∧ ∀ (i : Nat) (e : Cl), l[i]? = some e → σ 99 (i : Int) = e.2.1 ∧ σ 100 (i : Int) = e.1 ∧ σ 101 (i : Int) = (if e.2.1 = 4 then e.2.2.2 else e.2.2.1) ∧ σ 102 (i : Int) = (if e.2.1 = 4 then e.2.2.1 else 0)
theorem l_copyM {d : Nat} {n : Nat} {Q : Pst} {σ0 : Mem} {m : Int} (hG0 : GR σ0) (hm : 0 ≤ σ0 69 48 ∧ σ0 69 48 ≤ 60) (hq : ∀ τ, (∀ c j, ¬ (99 ≤ c ∧ c ≤ 102) → τ c j = σ0 c j) → (∀ i, 0 ≤ i → i < σ0 69 48 → τ 99 i = σ0 103 i ∧ τ 100 i = σ0 104 i ∧ τ 101 i = σ0 105 i ∧ τ 102 i = σ0 106 i) → Q (some (0, 0)) τ n) : ∀ (k j : Nat) (σ : Mem), (j : Int) ≤ σ0 69 48 → σ0 69 48 - j < k → (∀ c i, ¬ (99 ≤ c ∧ c ≤ 102) → σ c i = σ0 c i) → (∀ i, 0 ≤ i → i < (j : Int) → σ 99 i = σ0 103 i ∧ σ 100 i = σ0 104 i ∧ σ 101 i = σ0 105 i ∧ σ 102 i = σ0 106 i) → EV d 168 112 [(22, 69), (0, m), (0, (j : Int))] [] σ n Q := by
  intro k
  induction k with
  | zero => intros; exfalso; omega
  | succ k ih =>
    intro j σ hj hk hf hi
    have e48 := hf 69 48 (by omega)
    have hG : GR σ := GR.fr (fun c _ => decide (99 ≤ c) && decide (c ≤ 102)) hG0 (fun c j q => hf c j (fun z => by simp [z.1, z.2] at q)) (by decide)
    refine r_168_112 (ht := fun c => ?_) (hf := fun c => ?_)
    · exact r_168_174 (k := hq σ hf (fun i h0 h1 => hi i h0 (by omega)))
    · refine r_168_120 (hG := hG) (h0 := by omega) (k := ?_)
      rw [Zadd_nat (by omega)]
      refine ih (j + 1) _ (by omega) (by omega) (fun c i q => ?_) (fun i h0 h1 => ?_)
      · rw [wr_ne (by omega), wr_ne (by omega), wr_ne (by omega), wr_ne (by omega)]; exact hf c i q
      · have o1 := hf 103 j (by omega)
        have o2 := hf 104 j (by omega)
        have o3 := hf 105 j (by omega)
        have o4 := hf 106 j (by omega)
        by_cases q : i = (j : Int)
        · subst q
          refine ⟨?_, ?_, ?_, ?_⟩
          · rw [wr_ne (by decide), wr_ne (by decide), wr_ne (by decide), wr_same]; exact o1
          · rw [wr_ne (by decide), wr_ne (by decide), wr_same]; exact o2
          · rw [wr_ne (by decide), wr_same]; exact o3
          · rw [wr_same]; exact o4
        · obtain ⟨p1, p2, p3, p4⟩ := hi i h0 (by omega)
          refine ⟨?_, ?_, ?_, ?_⟩
          · rw [wr_ne (by decide), wr_ne (by decide), wr_ne (by decide), wr_nej q]; exact p1
          · rw [wr_ne (by decide), wr_ne (by decide), wr_nej q, wr_ne (by decide)]; exact p2
          · rw [wr_ne (by decide), wr_nej q, wr_ne (by decide), wr_ne (by decide)]; exact p3
          · rw [wr_nej q, wr_ne (by decide), wr_ne (by decide), wr_ne (by decide)]; exact p4
theorem paF_len {u : Int → Int} {N : Int} (h : UV u N) : ∀ (f : Nat) (a : Int) (l : List Cl), 0 ≤ a → a ≤ N → 10 * (l.length : Int) ≤ a → (paF u f a l).2.length ≤ 60 := by
  intro f
  have hN := h.1
  induction f with
  | zero => intro a l h0 h1 hl; show l.length ≤ 60; omega
  | succ f ih =>
    intro a l h0 h1 hl
    rw [paF_s]
    split
    · rename_i cz
      have h9 := cf_9 h h0 h1 cz
      have bb := cl_b h h0 h1
      have b4 := sk_b h (a := ca4 u a) (by omega) (by omega)
      have ln : ((l ++ [ccl u a]).length : Int) = l.length + 1 := by rw [List.length_append]; simp
      split
      · show (l ++ [ccl u a]).length ≤ 60; omega
      · rename_i c1
        split
        · have : sk u (ca4 u a) < N := by
            rcases Int.lt_or_le (sk u (ca4 u a)) N with q | q
            · exact q
            · exact absurd (h.2.1 _ q) c1
          exact ih _ _ (by omega) (by omega) (by omega)
        · show (l ++ [ccl u a]).length ≤ 60; omega
    · show l.length ≤ 60; omega
theorem paR_len {u : Int → Int} {N : Int} (h : UV u N) : (paR u).2.length ≤ 60 := by
  have b := sk_b h (a := 0) (by omega) h.1.1
  unfold paR
  split
  · exact Nat.zero_le 60
  · exact paF_len h 700 _ [] (by omega) (by omega) (by simp; omega)
set_option maxHeartbeats 4000000 in
theorem m_fees {d : Nat} {n : Nat} {Q : Pst} {σ : Mem} (hG : GR σ) (hB : BM σ) (hz : (paR (uM σ)).1 = 0 → ∀ τ, GR τ → (∀ c j, ¬ (c = 69 ∧ (j = 40 ∨ j = 41 ∨ j = 42 ∨ j = 43 ∨ j = 54 ∨ j = 48)) → ¬ (99 ≤ c ∧ c ≤ 106) → τ c j = σ c j) → τ 69 40 = 0 → CLK τ (paR (uM σ)).2 → Q (some (0, 0)) τ n) (hn : ¬ (paR (uM σ)).1 = 0 → ∀ τ, GR τ → (∀ c j, ¬ (c = 69 ∧ (j = 40 ∨ j = 41 ∨ j = 42 ∨ j = 54 ∨ j = 48)) → ¬ (103 ≤ c ∧ c ≤ 106) → τ c j = σ c j) → τ 69 40 = 0 → Q (some (0, (paR (uM σ)).1)) τ n) : EVM (d + 3) 168 [(22, 69)] σ n Q := by
  show EV (d + 3) 168 0 [(22, 69), (9, 0), (9, 0)] [] σ n Q
  have hB1 := hB.1
  have b := sk_b hB.uv (a := 0) (by omega) (by omega)
  have ue := u_end hB.uv (x := sk (uM σ) 0) (by omega)
  -- the end
  have fin : ∀ τ x1 l2, RDM σ τ (paR (uM σ)).1 (paR (uM σ)).2 → x1 = (if (paR (uM σ)).1 = 0 then (1 : Int) else 0) → EV (d + 3) 168 88 [(22, 69), (0, x1), l2] [] τ n Q := fun τ x1 l2 R ex => by
    have hGτ := R.GR hG
    by_cases c : (paR (uM σ)).1 = 0
    · rw [if_pos c] at ex
      subst ex
      have hC := R.2.2 c
      have hl := paR_len hB.uv
      refine r_168_88 (ht := fun _ => ?_) (hf := fun c => absurd c (by decide))
      refine r_168_102 (k := ?_)
      have e48 : (wrM τ 69 40 0) 69 48 = ((paR (uM σ)).2.length : Int) := by rw [wr_nej (by decide)]; exact hC.1
      rw [e48]
      have e48' : (wrM (wrM τ 69 40 0) 69 43 ((paR (uM σ)).2.length : Int)) 69 48 = ((paR (uM σ)).2.length : Int) := by rw [wr_nej (by decide)]; exact e48
      have hG2 : GR (wrM (wrM τ 69 40 0) 69 43 ((paR (uM σ)).2.length : Int)) := GR.wr (GR.wr hGτ (by decide)) (by decide)
      refine l_copyM hG2 (by rw [e48']; omega) (fun τ2 g1 g2 => ?_) ((paR (uM σ)).2.length + 1) 0 _ (by rw [e48']; omega) (by rw [e48']; omega) (fun _ _ _ => rfl) (fun i h0 h1 => by omega)
      refine hz c τ2 (GR.fr (fun c _ => decide (99 ≤ c) && decide (c ≤ 102)) hG2 (fun c j q => g1 c j (fun z => by simp [z.1, z.2] at q)) (by decide)) (fun c j q1 q2 => ?_) ?_ ⟨?_, fun i e he => ?_⟩
      · rw [g1 c j (by omega), wr_j (by omega), wr_j (by omega)]; exact R.1 c j (by omega) (by omega)
      · rw [g1 69 40 (by omega), wr_nej (by decide), wr_same]
      · rw [g1 69 43 (by omega), wr_same]
      · have hi : i < (paR (uM σ)).2.length := by
          rcases Nat.lt_or_ge i (paR (uM σ)).2.length with q | q
          · exact q
          · rw [List.getElem?_eq_none q] at he; cases he
        obtain ⟨p1, p2, p3, p4⟩ := g2 i (by omega) (by rw [e48']; omega)
        obtain ⟨r1, r2, r3, r4⟩ := hC.2 i e he
        rw [wr_ne (by decide), wr_ne (by decide)] at p1 p2 p3 p4
        exact ⟨p1.trans r1, p2.trans r2, p3.trans r3, p4.trans r4⟩
    · rw [if_neg c] at ex
      subst ex
      refine r_168_88 (ht := fun c => absurd rfl c) (hf := fun _ => ?_)
      refine r_168_97 (k := ?_)
      rw [wr_nej (by decide), R.2.1]
      refine hn c _ (GR.wr hGτ (by decide)) (fun c j q1 q2 => ?_) wr_same
      rw [wr_j (by omega)]; exact R.1 c j (by omega) (by omega)
  refine r_168_0 (k := ?_)
  have fr0 : ∀ c j, ¬ (c = 69 ∧ (j = 41 ∨ j = 42 ∨ j = 48)) → wrM (wrM (wrM σ 69 41 0) 69 42 0) 69 48 0 c j = σ c j := fun c j q => by rw [wr_j (by omega), wr_j (by omega), wr_j (by omega)]
  have R0 : RDM σ (wrM (wrM (wrM σ 69 41 0) 69 42 0) 69 48 0) 0 [] := ⟨fun c j q1 q2 => fr0 c j (by omega), by rw [wr_nej (by decide), wr_same], fun _ => ⟨by rw [wr_same]; rfl, fun i e he => by simp at he⟩⟩
  have S0 : RS (wrM (wrM (wrM σ 69 41 0) 69 42 0) 69 48 0) (wrM (wrM (wrM σ 69 41 0) 69 42 0) 69 48 0) 0 0 ((wrM (wrM (wrM σ 69 41 0) 69 42 0) 69 48 0) 69 54) := ⟨fun _ _ _ => rfl, by rw [wr_nej (by decide), wr_nej (by decide), wr_same], by rw [wr_nej (by decide), wr_same], rfl⟩
  have e40 : (wrM (wrM (wrM σ 69 41 0) 69 42 0) 69 48 0) 69 40 = σ 69 40 := fr0 69 40 (by decide)
  refine m_see (R0.GR hG) (R0.bm hB) S0 (by rw [e40]; omega) (fun τ1 S1 => ?_)
  rw [R0.eu] at S1
  rw [R0.eu]
  dsimp only [Option.toList_some, List.cons_append, List.nil_append]
  have R1 := R0.rs rfl S1
  have i1 := sk_i hB.uv (a := 0) (by omega) (by omega)
  have e40' : τ1 69 40 = σ 69 40 := R1.1 69 40 (by decide) (by decide)
  refine r_168_19 (ht := fun c => ?_) (hf := fun c => ?_)
  · -- nothing to read
    refine r_168_30 (k := ?_)
    refine l_feesM hG hB 700 (sk (uM σ) 0) [] _ τ1 R1 S1.2.1 (by omega) (by omega) (by simp; omega) (fun τ2 l2 R2 => ?_)
    have ep : paT (uM σ) 700 (sk (uM σ) 0) [] = paR (uM σ) := by
      unfold paT paR
      rw [i1, if_pos c, if_pos c]
    rw [ep] at R2 ⊢
    exact fin τ2 _ l2 R2 rfl
  · have hlt : sk (uM σ) 0 < σ 69 40 := by
      rcases Int.lt_or_le (sk (uM σ) 0) (σ 69 40) with q | q
      · exact q
      · exact absurd (ue.mpr q) c
    have ep : paR (uM σ) = if cf (uM σ) (sk (uM σ) 0) = 0 then paT (uM σ) 699 (ca4 (uM σ) (sk (uM σ) 0)) ([] ++ [ccl (uM σ) (sk (uM σ) 0)]) else (cf (uM σ) (sk (uM σ) 0), []) := by
      unfold paR
      rw [if_neg c]
      exact paF_T (f := 699)
    refine r_168_23 (k := ?_)
    refine m_clause (a := sk (uM σ) 0) (l := []) (R1.GR hG) (R1.bm hB) S1.2.1 (by rw [e40']; omega) S1.2.2.1 (R1.2.2 rfl) (fun _ => by simp) (fun cz τ4 g1 g2 g3 g4 => ?_) (fun cz τ4 g1 g2 => ?_)
    · rw [R1.eu] at cz g2 g4
      have h9 := cf_9 hB.uv (a := sk (uM σ) 0) (by omega) (by omega) cz
      have bb := cl_b hB.uv (a := sk (uM σ) 0) (by omega) (by omega)
      rw [if_pos cz] at ep
      dsimp only [Option.toList_some, List.cons_append, List.nil_append]
      refine r_168_27 (ht := fun c => absurd c (by decide)) (hf := fun _ => ?_)
      refine r_168_30 (k := ?_)
      refine l_feesM hG hB 699 (ca4 (uM σ) (sk (uM σ) 0)) _ _ τ4 ⟨fun c j q1 q2 => by rw [g1 c j q1 q2]; exact R1.1 c j q1 q2, g3, fun _ => g4⟩ g2 (by omega) (by omega) (by simp; omega) (fun τ2 l2 R2 => ?_)
      rw [← ep] at R2 ⊢
      exact fin τ2 _ l2 R2 rfl
    · rw [R1.eu] at cz g2
      rw [if_neg cz] at ep
      dsimp only [Option.toList_some, List.cons_append, List.nil_append]
      refine r_168_27 (ht := fun _ => ?_) (hf := fun c => absurd rfl c)
      refine r_168_34 (k := ?_)
      refine r_168_36 (ht := fun _ => ?_) (hf := fun c => absurd rfl c)
      have e1 : (paR (uM σ)).1 = cf (uM σ) (sk (uM σ) 0) := by rw [ep]
      exact fin τ4 0 _ ⟨fun c j q1 q2 => by rw [g1 c j (by omega)]; exact R1.1 c j q1 q2, by rw [e1]; exact g2, fun z => by rw [e1] at z; exact absurd z cz⟩ (by rw [e1, if_neg cz])
