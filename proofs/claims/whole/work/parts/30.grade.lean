/-! grades: papers and dialects -/
set_option maxHeartbeats 2000000 in
theorem GR.fr {σ τ : Mem} (P : Int → Int → Bool) (h : GR σ) (hf : ∀ c j, P c j = false → τ c j = σ c j) (hk : grL.all (fun e => !(P e.1 e.2.1)) = true) : GR τ := by
  intro e he
  have q := List.all_eq_true.mp hk e he
  rw [hf e.1 e.2.1 (by simpa using q)]
  exact h e he
def mx (a b : Int) : Int := if a < b then b else a
def dgN (pp pt pg pf pl : Int → Int) (p y t : Int) : Nat → Int
  | 0 => 0
  | k + 1 => if pp k = p ∧ pt k = t ∧ pf k ≤ y ∧ y ≤ pl k then mx (dgN pp pt pg pf pl p y t k) (pg k) else dgN pp pt pg pf pl p y t k
theorem dgN_s {pp pt pg pf pl : Int → Int} {p y t : Int} {k : Nat} : dgN pp pt pg pf pl p y t (k + 1) = if pp k = p ∧ pt k = t ∧ pf k ≤ y ∧ y ≤ pl k then mx (dgN pp pt pg pf pl p y t k) (pg k) else dgN pp pt pg pf pl p y t k := rfl
theorem dgN_b {pp pt pg pf pl : Int → Int} {p y t : Int} (k : Nat) (h : ∀ i : Nat, i < k → 0 ≤ pg i ∧ pg i ≤ 5) : 0 ≤ dgN pp pt pg pf pl p y t k ∧ dgN pp pt pg pf pl p y t k ≤ 5 := by
  induction k with
  | zero => exact ⟨Int.le_refl 0, (by decide : (0 : Int) ≤ 5)⟩
  | succ k ih =>
    have q := ih (fun i hi => h i (by omega))
    have q2 := h k (by omega)
    rw [dgN_s]
    unfold mx
    split
    · split <;> omega
    · exact q
theorem dgN_congr {pp pt pg pf pl pp' pt' pg' pf' pl' : Int → Int} {p y t : Int} (k : Nat) (h : ∀ i : Nat, i < k → pp i = pp' i ∧ pt i = pt' i ∧ pg i = pg' i ∧ pf i = pf' i ∧ pl i = pl' i) : dgN pp pt pg pf pl p y t k = dgN pp' pt' pg' pf' pl' p y t k := by
  induction k with
  | zero => rfl
  | succ k ih =>
    obtain ⟨h1, h2, h3, h4, h5⟩ := h k (by omega)
    rw [dgN_s, dgN_s, ih (fun i hi => h i (by omega)), h1, h2, h3, h4, h5]
def fG (dg par : Int → Int) : Nat → Int → Int
  | 0, t => dg t
  | f + 1, t => if par t = 0 then dg t else mx (dg t) (fG dg par f (par t) - 1)
theorem fG_s {dg par : Int → Int} {f : Nat} {t : Int} : fG dg par (f + 1) t = if par t = 0 then dg t else mx (dg t) (fG dg par f (par t) - 1) := rfl
/-- a dialect's number is greater than that of what it is a dialect of -/
def PR (par : Int → Int) : Prop := ∀ t, 0 ≤ t → t ≤ 9 → par t = 0 ∨ (0 < par t ∧ par t < t)
theorem fG_st {dg par : Int → Int} (hp : PR par) : ∀ (f : Nat) (t : Int), 0 ≤ t → t ≤ 9 → t < f → fG dg par f t = fG dg par (f + 1) t := by
  intro f
  induction f with
  | zero => intro t h0 h9 hf; exfalso; omega
  | succ f ih =>
    intro t h0 h9 hf
    rw [fG_s, fG_s]
    split
    · rfl
    · rcases hp t h0 h9 with q | q
      · contradiction
      · rw [ih (par t) (by omega) (by omega) (by omega)]
theorem fG_eq {dg par : Int → Int} (hp : PR par) {t : Int} (h0 : 0 ≤ t) (h9 : t ≤ 9) : fG dg par 10 t = if par t = 0 then dg t else mx (dg t) (fG dg par 10 (par t) - 1) := by
  rw [fG_st hp 10 t h0 h9 (by omega), fG_s]
theorem fG_b {dg par : Int → Int} (hp : PR par) (hd : ∀ t, 0 ≤ dg t ∧ dg t ≤ 5) : ∀ (f : Nat) (t : Int), 0 ≤ t → t ≤ 9 → 0 ≤ fG dg par f t ∧ fG dg par f t ≤ 5 := by
  intro f
  induction f with
  | zero => intro t _ _; exact hd t
  | succ f ih =>
    intro t h0 h9
    rw [fG_s]
    split
    · exact hd t
    · rcases hp t h0 h9 with q | q
      · contradiction
      · have q1 := ih (par t) (by omega) (by omega)
        have q2 := hd t
        unfold mx
        split <;> omega
theorem fG_congr {dg dg' par par' : Int → Int} (hd : ∀ t, dg t = dg' t) (hp : ∀ t, 0 ≤ t → t ≤ 9 → par t = par' t) (hr : PR par) : ∀ (f : Nat) (t : Int), 0 ≤ t → t ≤ 9 → fG dg par f t = fG dg' par' f t := by
  intro f
  induction f with
  | zero => intro t _ _; exact hd t
  | succ f ih =>
    intro t h0 h9
    rw [fG_s, fG_s, ← hp t h0 h9, ← hd t]
    split
    · rfl
    · rcases hr t h0 h9 with q | q
      · contradiction
      · rw [ih (par t) (by omega) (by omega)]
def gdC (σ : Mem) (p y t : Int) : Int := fG (fun t => dgN (σ 8) (σ 9) (σ 10) (σ 11) (σ 12) p y t (σ 6 7).toNat) (σ 7) 10 t
def gdM (σ : Mem) (p y t : Int) : Int := fG (fun t => dgN (σ 73) (σ 74) (σ 75) (σ 76) (σ 77) p y t (σ 69 4).toNat) (σ 71) 10 t
/-- the papers of the class, of the reference -/
def PV (σ : Mem) : Prop := (0 ≤ σ 6 7 ∧ σ 6 7 ≤ 40) ∧ (∀ i, 0 ≤ i → i < σ 6 7 → (0 ≤ σ 9 i ∧ σ 9 i ≤ 9) ∧ 0 ≤ σ 10 i ∧ σ 10 i ≤ 5) ∧ PR (σ 7)
def PM (σ : Mem) : Prop := (0 ≤ σ 69 4 ∧ σ 69 4 ≤ 40) ∧ (∀ i, 0 ≤ i → i < σ 69 4 → 0 ≤ σ 75 i ∧ σ 75 i ≤ 5) ∧ PR (σ 71)
theorem gdC_b {σ : Mem} (h : PV σ) {p y t : Int} (h0 : 0 ≤ t) (h9 : t ≤ 9) : 0 ≤ gdC σ p y t ∧ gdC σ p y t ≤ 5 := fG_b h.2.2 (fun t => dgN_b _ (fun i hi => (h.2.1 i (by omega) (by omega)).2)) 10 t h0 h9
theorem gdM_b {σ : Mem} (h : PM σ) {p y t : Int} (h0 : 0 ≤ t) (h9 : t ≤ 9) : 0 ≤ gdM σ p y t ∧ gdM σ p y t ≤ 5 := fG_b h.2.2 (fun t => dgN_b _ (fun i hi => (h.2.1 i (by omega) (by omega)))) 10 t h0 h9
/-- Arrays.fill of the row of grades -/
theorem l_fill {d : Nat} {n : Nat} {Q : Pst} {σ0 : Mem} : ∀ (k j : Nat) (σ : Mem), (∀ c i, ¬ c = 13 → σ c i = σ0 c i) → (∀ i, 0 ≤ i → i < (j : Int) → σ 13 i = 0) → (10 - (j : Int) < k) → (j ≤ 10) → (∀ τ, (∀ c i, ¬ c = 13 → τ c i = σ0 c i) → (∀ i, 0 ≤ i → i < 10 → τ 13 i = 0) → Q none τ n) → EV d 178 5 [(50, 13), (0, 0), (0, (j : Int)), (0, 10)] [] σ n Q := by
  intro k
  induction k with
  | zero => intros; exfalso; omega
  | succ k ih =>
    intro j σ hf hz hk hj hq
    refine r_178_5 (ht := fun c => ?_) (hf := fun c => ?_)
    · refine r_178_20 (k := ?_)
      exact hq σ hf (fun i h0 h1 => hz i h0 (by omega))
    · refine r_178_10 (h0 := by decide) (h1 := ⟨by omega, by rw [show lnF 13 = 10 from by decide]; omega⟩) (k := ?_)
      rw [Zadd_nat (by omega)]
      refine ih (j + 1) _ (fun c i hc => ?_) (fun i h0 h1 => ?_) (by omega) (by omega) hq
      · rw [wr_ne hc]; exact hf c i hc
      · rw [wr_if]
        split
        · rfl
        · exact hz i h0 (by omega)
theorem s_fill {d : Nat} {σ : Mem} {n : Nat} {Q : Pst} (k : ∀ τ, (∀ c i, ¬ c = 13 → τ c i = σ c i) → (∀ i, 0 ≤ i → i < 10 → τ 13 i = 0) → Q none τ n) : EVM d 178 [(50, 13), (0, 0)] σ n Q := by
  show EV d 178 0 [(50, 13), (0, 0), (9, 0), (9, 0)] [] σ n Q
  refine r_178_0 (h0 := by decide) (k := ?_)
  rw [show lnF 13 = 10 from by decide]
  exact l_fill 11 0 σ (fun _ _ _ => rfl) (fun i h0 h1 => by omega) (by omega) (by omega) k
theorem GR.fr13 {σ τ : Mem} (h : GR σ) (hf : ∀ c j, ¬ c = 13 → τ c j = σ c j) : GR τ := GR.fr (fun c _ => decide (c = 13)) h (fun c j q => hf c j (by simpa using q)) (by decide)
set_option maxHeartbeats 2000000 in
theorem l_gr1 {d : Nat} {n : Nat} {Q : Pst} {σ0 : Mem} {p y : Int} : ∀ (k : Nat) (j : Nat) (σ : Mem), (GR σ) → (∀ c i, ¬ c = 13 → σ c i = σ0 c i) → (PV σ0) → (σ0 6 7 - j < k) → ((j : Int) ≤ σ0 6 7) → (∀ t, 0 ≤ t → t ≤ 9 → σ 13 t = dgN (σ0 8) (σ0 9) (σ0 10) (σ0 11) (σ0 12) p y t j) → (∀ l σ1, GR σ1 → (∀ c i, ¬ c = 13 → σ1 c i = σ0 c i) → (∀ t, 0 ≤ t → t ≤ 9 → σ1 13 t = dgN (σ0 8) (σ0 9) (σ0 10) (σ0 11) (σ0 12) p y t (σ0 6 7).toNat) → EV d 32 91 [(15, 6), (0, p), (0, y), (0, l)] [] σ1 n Q) → EV d 32 10 [(15, 6), (0, p), (0, y), (0, (j : Int))] [] σ n Q := by
  intro k
  induction k with
  | zero => intros; exfalso; omega
  | succ k ih =>
    intro j σ hG hf hP hk hj ht hq
    have hP1 := hP.1
    have e6 := hf 6 7 (by decide)
    have e8 := hf 8 j (by decide)
    have e9 := hf 9 j (by decide)
    have e10 := hf 10 j (by decide)
    have e11 := hf 11 j (by decide)
    have e12 := hf 12 j (by decide)
    have hP2 := hP.2.1 j (by omega)
    refine r_32_10  (ht := fun c => ?_) (hf := fun c => ?_)
    · skip
      exact hq _ σ hG hf (fun t h0 h9 => by rw [show (σ0 6 7).toNat = j by omega]; exact ht t h0 h9)
    · skip
      refine r_32_18  (ht := fun c => ?_) (hf := fun c => ?_)
      · skip
        exact hq _ σ hG hf (fun t h0 h9 => by rw [show (σ0 6 7).toNat = j by omega]; exact ht t h0 h9)
      · skip
        refine r_32_24 (hG := hG) (h0 := (by first | omega | (have := hP2 (by omega); omega))) (ht := fun c => ?_) (hf := fun c => ?_)
        · skip
          refine r_32_85  (k := ?_)
          rw [Zadd_nat (by omega)]
          refine ih (j + 1) _ ?_ ?_ hP (by omega) (by omega) ?_ hq
          · first | exact hG | exact GR.wrk hG (by decide)
          · intro c i hc; first | exact hf c i hc | (rw [wr_ne hc]; exact hf c i hc)
          · intro t h0 h9
            have q := ht t h0 h9
            rw [dgN_s]
            first
            | (rw [if_neg (by omega)]; exact q)
            | (rw [wr_if]
               split
               · rename_i hh
                 have e : σ 9 (j : Int) = t := hh.2.symm
                 rw [e, q, e10]
                 exact (if_pos (by omega)).symm
               · rename_i hh
                 rw [if_neg (by omega)]; exact q)
        · skip
          refine r_32_34 (hG := hG) (h0 := (by first | omega | (have := hP2 (by omega); omega))) (ht := fun c => ?_) (hf := fun c => ?_)
          · skip
            refine r_32_85  (k := ?_)
            rw [Zadd_nat (by omega)]
            refine ih (j + 1) _ ?_ ?_ hP (by omega) (by omega) ?_ hq
            · first | exact hG | exact GR.wrk hG (by decide)
            · intro c i hc; first | exact hf c i hc | (rw [wr_ne hc]; exact hf c i hc)
            · intro t h0 h9
              have q := ht t h0 h9
              rw [dgN_s]
              first
              | (rw [if_neg (by omega)]; exact q)
              | (rw [wr_if]
                 split
                 · rename_i hh
                   have e : σ 9 (j : Int) = t := hh.2.symm
                   rw [e, q, e10]
                   exact (if_pos (by omega)).symm
                 · rename_i hh
                   rw [if_neg (by omega)]; exact q)
          · skip
            refine r_32_44 (hG := hG) (h0 := (by first | omega | (have := hP2 (by omega); omega))) (ht := fun c => ?_) (hf := fun c => ?_)
            · skip
              refine r_32_85  (k := ?_)
              rw [Zadd_nat (by omega)]
              refine ih (j + 1) _ ?_ ?_ hP (by omega) (by omega) ?_ hq
              · first | exact hG | exact GR.wrk hG (by decide)
              · intro c i hc; first | exact hf c i hc | (rw [wr_ne hc]; exact hf c i hc)
              · intro t h0 h9
                have q := ht t h0 h9
                rw [dgN_s]
                first
                | (rw [if_neg (by omega)]; exact q)
                | (rw [wr_if]
                   split
                   · rename_i hh
                     have e : σ 9 (j : Int) = t := hh.2.symm
                     rw [e, q, e10]
                     exact (if_pos (by omega)).symm
                   · rename_i hh
                     rw [if_neg (by omega)]; exact q)
            · skip
              refine r_32_54 (hG := hG) (h0 := (by first | omega | (have := hP2 (by omega); omega))) (h1 := (by first | omega | (have := hP2 (by omega); omega))) (k := ?_)
              rw [Zadd_nat (by omega)]
              refine ih (j + 1) _ ?_ ?_ hP (by omega) (by omega) ?_ hq
              · first | exact hG | exact GR.wrk hG (by decide)
              · intro c i hc; first | exact hf c i hc | (rw [wr_ne hc]; exact hf c i hc)
              · intro t h0 h9
                have q := ht t h0 h9
                rw [dgN_s]
                first
                | (rw [if_neg (by omega)]; exact q)
                | (rw [wr_if]
                   split
                   · rename_i hh
                     have e : σ 9 (j : Int) = t := hh.2.symm
                     rw [e, q, e10]
                     exact (if_pos (by omega)).symm
                   · rename_i hh
                     rw [if_neg (by omega)]; exact q)
set_option maxHeartbeats 2000000 in
theorem l_gr2 {d : Nat} {n : Nat} {Q : Pst} {σ0 : Mem} {p y : Int} : ∀ (k : Nat) (j : Nat) (σ : Mem), (GR σ) → (∀ c i, ¬ c = 13 → σ c i = σ0 c i) → (PV σ0) → (10 - (j : Int) < k) → (2 ≤ j) → (j ≤ 10) → (∀ t, 0 ≤ t → t < (j : Int) → σ 13 t = fG (fun t => dgN (σ0 8) (σ0 9) (σ0 10) (σ0 11) (σ0 12) p y t (σ0 6 7).toNat) (σ0 7) 10 t) → (∀ t, (j : Int) ≤ t → t ≤ 9 → σ 13 t = dgN (σ0 8) (σ0 9) (σ0 10) (σ0 11) (σ0 12) p y t (σ0 6 7).toNat) → (∀ σ1, GR σ1 → (∀ c i, ¬ c = 13 → σ1 c i = σ0 c i) → (∀ t, 0 ≤ t → t ≤ 9 → σ1 13 t = gdC σ0 p y t) → Q (some (50, 13)) σ1 n) → EV d 32 93 [(15, 6), (0, p), (0, y), (0, (j : Int))] [] σ n Q := by
  intro k
  induction k with
  | zero => intros; exfalso; omega
  | succ k ih =>
    intro j σ hG hf hP hk h2 hj hlt hge hq
    have e7 := hf 7 j (by decide)
    have hR := hP.2.2 j (by omega)
    have hB : ∀ t, 0 ≤ t → t ≤ 9 → 0 ≤ fG (fun t => dgN (σ0 8) (σ0 9) (σ0 10) (σ0 11) (σ0 12) p y t (σ0 6 7).toNat) (σ0 7) 10 t ∧ fG (fun t => dgN (σ0 8) (σ0 9) (σ0 10) (σ0 11) (σ0 12) p y t (σ0 6 7).toNat) (σ0 7) 10 t ≤ 5 := fun t h0 h9 => gdC_b hP h0 h9
    have hB2 := hB (σ 7 (j : Int))
    refine r_32_93  (ht := fun c => ?_) (hf := fun c => ?_)
    · skip
      refine r_32_142 (hG := hG) (k := ?_)
      exact hq σ hG hf (fun t h0 h9 => hlt t h0 (by omega))
    · skip
      refine r_32_99 (hG := hG) (h0 := (by first | omega | (have := hR (by omega); omega))) (ht := fun c => ?_) (hf := fun c => ?_)
      · skip
        refine r_32_136  (k := ?_)
        rw [Zadd_nat (by omega)]
        refine ih (j + 1) _ ?_ ?_ hP (by omega) (by omega) (by omega) ?_ ?_ hq
        · first | exact hG | exact GR.wrk hG (by decide)
        · intro c i hc; first | exact hf c i hc | (rw [wr_ne hc]; exact hf c i hc)
        · intro t h0 h9
          by_cases e : t = (j : Int)
          · subst e
            rw [fG_eq hP.2.2 (by omega) (by omega)]
            first
            | (rw [if_pos (by omega)]; exact hge _ (by omega) (by omega))
            | (have q1 := hge (j : Int) (by omega) (by omega)
               have q2 := hlt (σ 7 (j : Int)) (by omega) (by omega)
               rw [wr_same, q1, q2, Zsub_eq (by omega) (by omega), if_neg (show ¬ σ0 7 (j : Int) = 0 by omega), ← e7]
               rfl)
          · have q := hlt t h0 (by omega)
            first
            | exact q
            | (rw [wr_nej e]; exact q)
        · intro t h0 h9
          have q := hge t (by omega) h9
          first
          | exact q
          | (rw [wr_nej (by omega)]; exact q)
      · skip
        refine r_32_108 (hG := hG) (h0 := (by first | omega | (have := hR (by omega); omega))) (h1 := (by first | omega | (have := hR (by omega); omega))) (k := ?_)
        rw [Zadd_nat (by omega)]
        refine ih (j + 1) _ ?_ ?_ hP (by omega) (by omega) (by omega) ?_ ?_ hq
        · first | exact hG | exact GR.wrk hG (by decide)
        · intro c i hc; first | exact hf c i hc | (rw [wr_ne hc]; exact hf c i hc)
        · intro t h0 h9
          by_cases e : t = (j : Int)
          · subst e
            rw [fG_eq hP.2.2 (by omega) (by omega)]
            first
            | (rw [if_pos (by omega)]; exact hge _ (by omega) (by omega))
            | (have q1 := hge (j : Int) (by omega) (by omega)
               have q2 := hlt (σ 7 (j : Int)) (by omega) (by omega)
               rw [wr_same, q1, q2, Zsub_eq (by omega) (by omega), if_neg (show ¬ σ0 7 (j : Int) = 0 by omega), ← e7]
               rfl)
          · have q := hlt t h0 (by omega)
            first
            | exact q
            | (rw [wr_nej e]; exact q)
        · intro t h0 h9
          have q := hge t (by omega) h9
          first
          | exact q
          | (rw [wr_nej (by omega)]; exact q)
set_option maxHeartbeats 2000000 in
theorem s_gradesOf {d : Nat} {σ : Mem} {n : Nat} {Q : Pst} {p y : Int} (hG : GR σ) (hP : PV σ) (k : ∀ σ1, GR σ1 → (∀ c i, ¬ c = 13 → σ1 c i = σ c i) → (∀ t, 0 ≤ t → t ≤ 9 → σ1 13 t = gdC σ p y t) → Q (some (50, 13)) σ1 n) : EVM (d + 1) 32 [(15, 6), (0, p), (0, y)] σ n Q := by
  show EV (d + 1) 32 0 [(15, 6), (0, p), (0, y), (9, 0)] [] σ n Q
  refine r_32_0 (hG := hG) (k := ?_)
  refine s_fill (fun τ hf hz => ?_)
  dsimp only [Option.toList_some, Option.toList_none, List.cons_append, List.nil_append]
  refine r_32_8 (k := ?_)
  have hP1 := hP.1
  refine l_gr1 (σ0 := σ) ((σ 6 7).toNat + 1) 0 τ (hG.fr13 hf) hf hP (by omega) (by omega) (fun t h0 h9 => by rw [hz t h0 (by omega)]; rfl) ?_
  intro l σ1 hG1 hf1 h1
  refine r_32_91 (k := ?_)
  refine l_gr2 (σ0 := σ) 9 2 σ1 hG1 hf1 hP (by omega) (by omega) (by omega) (fun t h0 h9 => ?_) (fun t h0 h9 => h1 t (by omega) h9) k
  rw [h1 t h0 (by omega), fG_eq hP.2.2 h0 (by omega), if_pos]
  have := hP.2.2 t h0 (by omega)
  omega
set_option maxHeartbeats 2000000 in
theorem s_grade {d : Nat} {σ : Mem} {n : Nat} {Q : Pst} {p t y : Int} (hG : GR σ) (hP : PV σ) (hv : (0 ≤ p ∧ p < σ 3 2 ∧ p < 5) ∧ (0 ≤ t ∧ t ≤ 9) ∧ (0 ≤ y ∧ y ≤ 999) → ∀ σ1, GR σ1 → (∀ c i, ¬ c = 13 → σ1 c i = σ c i) → Q (some (0, gdC σ p y t)) σ1 n) (hn : ¬ ((0 ≤ p ∧ p < σ 3 2 ∧ p < 5) ∧ (0 ≤ t ∧ t ≤ 9) ∧ (0 ≤ y ∧ y ≤ 999)) → Q (some (0, -1)) σ n) : EVM (d + 2) 91 [(21, 0), (0, p), (0, t), (0, y)] σ n Q := by
  show EV (d + 2) 91 0 [(21, 0), (0, p), (0, t), (0, y)] [] σ n Q
  refine r_91_0 (hG := hG) (k := ?_)
  refine s_has (fun c => ?_) (fun c => ?_)
  · dsimp only [Option.toList_some, List.cons_append, List.nil_append]
    refine r_91_8  (ht := fun c => absurd c (by decide)) (hf := fun _ => ?_)
    refine r_91_11  (k := ?_)
    refine s_isTongue (fun c => ?_) (fun c => ?_)
    · dsimp only [Option.toList_some, List.cons_append, List.nil_append]
      refine r_91_15  (ht := fun c => absurd c (by decide)) (hf := fun _ => ?_)
      refine r_91_18  (k := ?_)
      refine s_isDay (fun c => ?_) (fun c => ?_)
      · dsimp only [Option.toList_some, List.cons_append, List.nil_append]
        refine r_91_22  (ht := fun _ => ?_) (hf := fun c => absurd c (by decide))
        refine r_91_27 (hG := hG) (k := ?_)
        refine s_gradesOf hG hP (fun σ1 hG1 hf1 h1 => ?_)
        dsimp only [Option.toList_some, Option.toList_none, List.cons_append, List.nil_append]
        refine r_91_36 (h0 := (by first | decide | (rw [show lnF 13 = 10 from by decide]; omega))) (h1 := (by first | decide | (rw [show lnF 13 = 10 from by decide]; omega))) (k := ?_)
        (first | exact hn (by omega) | (rw [h1 t (by omega) (by omega)]; exact hv (by omega) σ1 hG1 hf1))
      · dsimp only [Option.toList_some, List.cons_append, List.nil_append]
        refine r_91_22  (ht := fun c => absurd c (by decide)) (hf := fun _ => ?_)
        refine r_91_25  (k := ?_)
        (first | exact hn (by omega) | (rw [h1 t (by omega) (by omega)]; exact hv (by omega) σ1 hG1 hf1))
    · dsimp only [Option.toList_some, List.cons_append, List.nil_append]
      refine r_91_15  (ht := fun _ => ?_) (hf := fun c => absurd c (by decide))
      refine r_91_25  (k := ?_)
      (first | exact hn (by omega) | (rw [h1 t (by omega) (by omega)]; exact hv (by omega) σ1 hG1 hf1))
  · dsimp only [Option.toList_some, List.cons_append, List.nil_append]
    refine r_91_8  (ht := fun _ => ?_) (hf := fun c => absurd c (by decide))
    refine r_91_25  (k := ?_)
    (first | exact hn (by omega) | (rw [h1 t (by omega) (by omega)]; exact hv (by omega) σ1 hG1 hf1))
def rbN (pp pt pg pf pl : Int → Int) (p y t o b : Int) : Nat → Int
  | 0 => b
  | k + 1 => if pp k = p ∧ pt k = t ∧ pf k ≤ y ∧ y ≤ pl k then mx (rbN pp pt pg pf pl p y t o b k) (pg k - o) else rbN pp pt pg pf pl p y t o b k
theorem rbN_s {pp pt pg pf pl : Int → Int} {p y t o b : Int} {k : Nat} : rbN pp pt pg pf pl p y t o b (k + 1) = if pp k = p ∧ pt k = t ∧ pf k ≤ y ∧ y ≤ pl k then mx (rbN pp pt pg pf pl p y t o b k) (pg k - o) else rbN pp pt pg pf pl p y t o b k := rfl
theorem rbN_eq {pp pt pg pf pl : Int → Int} {p y t o b : Int} (h0 : 0 ≤ b) (ho : 0 ≤ o) (k : Nat) : rbN pp pt pg pf pl p y t o b k = mx b (dgN pp pt pg pf pl p y t k - o) := by
  induction k with
  | zero => show b = mx b (0 - o); unfold mx; rw [if_neg (by omega)]
  | succ k ih =>
    rw [rbN_s, dgN_s, ih]
    unfold mx
    split
    · split <;> split <;> split <;> omega
    · rfl
set_option maxHeartbeats 2000000 in
theorem l_gi1 {d : Nat} {n : Nat} {Q : Pst} {p t0 y t o b : Int} {ho : 0 ≤ o ∧ o ≤ 9} : ∀ (k : Nat) (j : Nat) (a : Int) (σ : Mem), (GR σ) → (PM σ) → (σ 69 4 - j < k) → ((j : Int) ≤ σ 69 4) → (0 ≤ a ∧ a ≤ 5) → (a = rbN (σ 73) (σ 74) (σ 75) (σ 76) (σ 77) p y t o b j) → (∀ v l, (0 ≤ v ∧ v ≤ 5) → v = rbN (σ 73) (σ 74) (σ 75) (σ 76) (σ 77) p y t o b (σ 69 4).toNat → EV d 130 107 [(22, 69), (0, p), (0, t0), (0, y), (0, v), (0, o), (0, t), (0, l)] [] σ n Q) → EV d 130 12 [(22, 69), (0, p), (0, t0), (0, y), (0, a), (0, o), (0, t), (0, (j : Int))] [] σ n Q := by
  intro k
  induction k with
  | zero => intros; exfalso; omega
  | succ k ih =>
    intro j a σ hG hP hk hj hb ha hq
    have hP1 := hP.1
    have hP2 := hP.2.1 j (by omega)
    have ez : (j : Int) < σ 69 4 → Zsub (σ 75 (j : Int)) o = σ 75 (j : Int) - o := fun h => Zsub_eq (by omega) (by omega)
    refine r_130_12  (ht := fun c => ?_) (hf := fun c => ?_)
    · skip
      exact hq _ _ hb (by rw [show (σ 69 4).toNat = j by omega]; exact ha)
    · skip
      refine r_130_21 (hG := hG) (h0 := (by omega)) (ht := fun c => ?_) (hf := fun c => ?_)
      · skip
        refine r_130_101  (k := ?_)
        rw [Zadd_nat (by omega)]
        refine ih (j + 1) _ σ hG hP (by omega) (by omega) ?_ ?_ hq
        · first | exact hb | (have ez := ez (by omega); omega)
        · rw [rbN_s, ← ha]
          first
          | (rw [if_neg (by omega)])
          | (rw [if_pos (by omega)]; unfold mx; have ez := ez (by omega); first | (rw [if_pos (by omega), ez]) | (rw [if_neg (by omega)]))
      · skip
        refine r_130_32 (hG := hG) (h0 := (by omega)) (ht := fun c => ?_) (hf := fun c => ?_)
        · skip
          refine r_130_101  (k := ?_)
          rw [Zadd_nat (by omega)]
          refine ih (j + 1) _ σ hG hP (by omega) (by omega) ?_ ?_ hq
          · first | exact hb | (have ez := ez (by omega); omega)
          · rw [rbN_s, ← ha]
            first
            | (rw [if_neg (by omega)])
            | (rw [if_pos (by omega)]; unfold mx; have ez := ez (by omega); first | (rw [if_pos (by omega), ez]) | (rw [if_neg (by omega)]))
        · skip
          refine r_130_44 (hG := hG) (h0 := (by omega)) (ht := fun c => ?_) (hf := fun c => ?_)
          · skip
            refine r_130_101  (k := ?_)
            rw [Zadd_nat (by omega)]
            refine ih (j + 1) _ σ hG hP (by omega) (by omega) ?_ ?_ hq
            · first | exact hb | (have ez := ez (by omega); omega)
            · rw [rbN_s, ← ha]
              first
              | (rw [if_neg (by omega)])
              | (rw [if_pos (by omega)]; unfold mx; have ez := ez (by omega); first | (rw [if_pos (by omega), ez]) | (rw [if_neg (by omega)]))
          · skip
            refine r_130_55 (hG := hG) (h0 := (by omega)) (ht := fun c => ?_) (hf := fun c => ?_)
            · skip
              refine r_130_69 (hG := hG) (h0 := (by omega)) (ht := fun c => ?_) (hf := fun c => ?_)
              · skip
                refine r_130_97  (k := ?_)
                rw [Zadd_nat (by omega)]
                refine ih (j + 1) _ σ hG hP (by omega) (by omega) ?_ ?_ hq
                · first | exact hb | (have ez := ez (by omega); omega)
                · rw [rbN_s, ← ha]
                  first
                  | (rw [if_neg (by omega)])
                  | (rw [if_pos (by omega)]; unfold mx; have ez := ez (by omega); first | (rw [if_pos (by omega), ez]) | (rw [if_neg (by omega)]))
              · skip
                refine r_130_84 (hG := hG) (h0 := (by omega)) (k := ?_)
                rw [Zadd_nat (by omega)]
                refine ih (j + 1) _ σ hG hP (by omega) (by omega) ?_ ?_ hq
                · first | exact hb | (have ez := ez (by omega); omega)
                · rw [rbN_s, ← ha]
                  first
                  | (rw [if_neg (by omega)])
                  | (rw [if_pos (by omega)]; unfold mx; have ez := ez (by omega); first | (rw [if_pos (by omega), ez]) | (rw [if_neg (by omega)]))
            · skip
              refine r_130_66  (k := ?_)
              rw [Zadd_nat (by omega)]
              refine ih (j + 1) _ σ hG hP (by omega) (by omega) ?_ ?_ hq
              · first | exact hb | (have ez := ez (by omega); omega)
              · rw [rbN_s, ← ha]
                first
                | (rw [if_neg (by omega)])
                | (rw [if_pos (by omega)]; unfold mx; have ez := ez (by omega); first | (rw [if_pos (by omega), ez]) | (rw [if_neg (by omega)]))
set_option maxHeartbeats 2000000 in
theorem l_gi2 {d : Nat} {n : Nat} {Q : Pst} {p t0 y : Int} : ∀ (k : Nat) (t o a : Int) (l : AV) (σ : Mem), (GR σ) → (PM σ) → (t < k) → (0 ≤ t ∧ t ≤ 9) → (0 ≤ o ∧ o + t ≤ 9) → (0 ≤ a ∧ a ≤ 5) → (∀ v, v = mx a (gdM σ p y t - o) → Q (some (0, v)) σ n) → EV d 130 9 [(22, 69), (0, p), (0, t0), (0, y), (0, a), (0, o), (0, t), l] [] σ n Q := by
  intro k
  induction k with
  | zero => intros; exfalso; omega
  | succ k ih =>
    intro t o a l σ hG hP hk ht ho ha hq
    have hP1 := hP.1
    refine r_130_9 (k := ?_)
    refine l_gi1 (ho := by omega) (b := a) ((σ 69 4).toNat + 1) 0 a σ hG hP (by omega) (by omega) ha rfl ?_
    intro v l hvb hv
    rw [rbN_eq ha.1 ho.1] at hv
    refine r_130_107 (hG := hG) (h0 := by omega) (ht := fun c => ?_) (hf := fun c => ?_)
    · refine r_130_120 (hG := hG) (h0 := by omega) (k := ?_)
      have hR := hP.2.2 t (by omega) (by omega)
      rw [Zadd_eq (by omega) (by omega)]
      refine ih (σ 71 t) (o + 1) v _ σ hG hP (by omega) (by omega) (by omega) hvb (fun w hw => hq w ?_)
      rw [hw, hv]
      show mx (mx a _) (fG _ _ 10 (σ 71 t) - (o + 1)) = mx a (fG _ _ 10 t - o)
      rw [fG_eq hP.2.2 ht.1 ht.2, if_neg c]
      (try dsimp only)
      unfold mx
      split <;> split <;> split <;> (try split) <;> omega
    · refine r_130_117 (k := ?_)
      refine hq _ ?_
      rw [hv]
      show _ = mx a (fG _ _ 10 t - o)
      rw [fG_eq hP.2.2 ht.1 ht.2, if_pos c]
theorem m_gradeIn {d : Nat} {σ : Mem} {n : Nat} {Q : Pst} {p t y : Int} (hG : GR σ) (hP : PM σ) (ht : 0 ≤ t ∧ t ≤ 9) (k : ∀ v, v = gdM σ p y t → Q (some (0, v)) σ n) : EVM d 130 [(22, 69), (0, p), (0, t), (0, y)] σ n Q := by
  show EV d 130 0 [(22, 69), (0, p), (0, t), (0, y), (9, 0), (9, 0), (9, 0), (9, 0)] [] σ n Q
  refine r_130_0 (k := ?_)
  have hb := gdM_b hP (p := p) (y := y) ht.1 ht.2
  refine l_gi2 10 t 0 0 _ σ hG hP (by omega) ht (by omega) (by omega) (fun v hv => k v ?_)
  rw [hv]
  unfold mx
  split <;> omega
set_option maxHeartbeats 2000000 in
theorem m_grade {d : Nat} {σ : Mem} {n : Nat} {Q : Pst} {p t y : Int} (hG : GR σ) (hP : PM σ) (hz : Zsub (σ 69 2) 1 = σ 69 2 - 1) (k : ∀ v, v = (if (0 ≤ p ∧ p < σ 69 2) ∧ (0 ≤ t ∧ t ≤ 9) ∧ (0 ≤ y ∧ y ≤ 999) then gdM σ p y t else -1 : Int) → Q (some (0, v)) σ n) : EVM (d + 2) 131 [(22, 69), (0, p), (0, t), (0, y)] σ n Q := by
  show EV (d + 2) 131 0 [(22, 69), (0, p), (0, t), (0, y)] [] σ n Q
  refine r_131_0  (k := ?_)
  refine m_isPerson (fun c => ?_) (fun c => ?_)
  · dsimp only [Option.toList_some, List.cons_append, List.nil_append]
    refine r_131_5  (ht := fun c => absurd c (by decide)) (hf := fun _ => ?_)
    refine r_131_8  (k := ?_)
    refine m_in (fun c => ?_) (fun c => ?_)
    · dsimp only [Option.toList_some, List.cons_append, List.nil_append]
      refine r_131_15  (ht := fun c => absurd c (by decide)) (hf := fun _ => ?_)
      refine r_131_18  (k := ?_)
      refine m_isDay (fun c => ?_) (fun c => ?_)
      · dsimp only [Option.toList_some, List.cons_append, List.nil_append]
        refine r_131_22  (ht := fun c => absurd c (by decide)) (hf := fun _ => ?_)
        refine r_131_25  (k := ?_)
        refine m_gradeIn hG hP (by omega) (fun v ev => ?_)
        dsimp only [Option.toList_some, Option.toList_none, List.cons_append, List.nil_append]
        refine r_131_32  (k := ?_)
        exact k _ (by first | (rw [if_pos (by omega)]; assumption) | (rw [if_neg (by omega)]))
      · dsimp only [Option.toList_some, List.cons_append, List.nil_append]
        refine r_131_22  (ht := fun _ => ?_) (hf := fun c => absurd c (by decide))
        refine r_131_35  (k := ?_)
        exact k _ (by first | (rw [if_pos (by omega)]; assumption) | (rw [if_neg (by omega)]))
    · dsimp only [Option.toList_some, List.cons_append, List.nil_append]
      refine r_131_15  (ht := fun _ => ?_) (hf := fun c => absurd c (by decide))
      refine r_131_35  (k := ?_)
      exact k _ (by first | (rw [if_pos (by omega)]; assumption) | (rw [if_neg (by omega)]))
  · dsimp only [Option.toList_some, List.cons_append, List.nil_append]
    refine r_131_5  (ht := fun _ => ?_) (hf := fun c => absurd c (by decide))
    refine r_131_35  (k := ?_)
    exact k _ (by first | (rw [if_pos (by omega)]; assumption) | (rw [if_neg (by omega)]))
