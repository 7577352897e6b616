/-! the reading of a text of fees: the reference -/
def RS (σ0 σ : Mem) (a f sd : Int) : Prop := (∀ c j, ¬ (c = 69 ∧ (j = 41 ∨ j = 42 ∨ j = 54)) → σ c j = σ0 c j) ∧ σ 69 41 = a ∧ σ 69 42 = f ∧ σ 69 54 = sd
def uM (σ : Mem) : Int → Int := uB (σ 98) (σ 69 40)
def wdL : List Int := [32, 102, 114, 111, 109, 32, 114, 97, 116, 101, 32, 108, 101, 97, 115, 116, 32, 119, 97, 121, 32, 112, 97, 105, 114, 32, 114, 101, 108, 97, 121, 32, 108, 97, 116, 101, 32]
def WL (x : Int) : Int := wdL.getD x.toNat 0
def BM (σ : Mem) : Prop := (0 ≤ σ 69 40 ∧ σ 69 40 ≤ 600) ∧ (∀ x, -128 ≤ σ 98 x ∧ σ 98 x ≤ 127) ∧ (∀ x, 0 ≤ x → x < 37 → σ 107 x = WL x)
theorem BM.uv {σ : Mem} (h : BM σ) : UV (uM σ) (σ 69 40) := uB_V h.1 h.2.1
theorem BM.u {σ : Mem} (h : BM σ) {x : Int} (h0 : 0 ≤ x) (h1 : x < σ 69 40) : uM σ x = if 0 ≤ σ 98 x then σ 98 x else σ 98 x + 256 := if_pos ⟨h0, h1⟩
theorem RS.GR {σ0 σ : Mem} {a f sd : Int} (h : RS σ0 σ a f sd) (hG : GR σ0) : GR σ := GR.fr (fun c j => decide (c = 69) && (decide (j = 41) || (decide (j = 42) || decide (j = 54)))) hG (fun c j q => h.1 c j (fun z => by rcases z with ⟨z1, z2 | z2 | z2⟩ <;> simp [z1, z2] at q)) (by decide)
theorem RS.at {σ0 σ : Mem} {a f sd b : Int} (h : RS σ0 σ a f sd) : RS σ0 (wrM σ 69 41 b) b f sd := ⟨fun c j q => by rw [wr_j (by omega)]; exact h.1 c j q, wr_same, by rw [wr_nej (by decide)]; exact h.2.2.1, by rw [wr_nej (by decide)]; exact h.2.2.2⟩
theorem RS.ft {σ0 σ : Mem} {a f sd b : Int} (h : RS σ0 σ a f sd) : RS σ0 (wrM σ 69 42 b) a b sd := ⟨fun c j q => by rw [wr_j (by omega)]; exact h.1 c j q, by rw [wr_nej (by decide)]; exact h.2.1, wr_same, by rw [wr_nej (by decide)]; exact h.2.2.2⟩
theorem RS.sd {σ0 σ : Mem} {a f sd b : Int} (h : RS σ0 σ a f sd) : RS σ0 (wrM σ 69 54 b) a f b := ⟨fun c j q => by rw [wr_j (by omega)]; exact h.1 c j q, by rw [wr_nej (by decide)]; exact h.2.1, by rw [wr_nej (by decide)]; exact h.2.2.1, wr_same⟩
theorem RS.e98 {σ0 σ : Mem} {a f sd : Int} (h : RS σ0 σ a f sd) (x : Int) : σ 98 x = σ0 98 x := h.1 98 x (by omega)
theorem RS.e40 {σ0 σ : Mem} {a f sd : Int} (h : RS σ0 σ a f sd) : σ 69 40 = σ0 69 40 := h.1 69 40 (by decide)
theorem skF_n {u : Int → Int} {N : Int} (h : UV u N) : ∀ (f : Nat) (a : Int), 0 ≤ a → a ≤ N → N - a < f → ¬ u (skF u f a) = 32 := by
  intro f
  induction f with
  | zero => intros; omega
  | succ f ih =>
    intro a h0 h1 hk
    rw [skF_s]
    split
    · rename_i c
      have : a < N := by
        rcases Int.lt_or_le a N with q | q
        · exact q
        · have := h.2.1 a q; omega
      exact ih (a + 1) (by omega) (by omega) (by omega)
    · assumption
theorem sk_i {u : Int → Int} {N : Int} (h : UV u N) {a : Int} (h0 : 0 ≤ a) (h1 : a ≤ N) : sk u (sk u a) = sk u a := by
  have hN := h.1
  have q : ¬ u (sk u a) = 32 := skF_n h 700 a h0 h1 (by omega)
  show skF u (699 + 1) (sk u a) = sk u a
  rw [skF_s, if_neg q]
theorem ltF_l {u : Int → Int} : ∀ (f : Nat) (a x : Int), a ≤ x → x < ltF u f a → 97 ≤ u x ∧ u x ≤ 122 := by
  intro f
  induction f with
  | zero => intro a x h0 h1; have : x < a := h1; omega
  | succ f ih =>
    intro a x h0 h1
    rw [ltF_s] at h1
    split at h1
    · rename_i c
      by_cases e : x = a
      · rw [e]; exact c
      · exact ih (a + 1) x (by omega) h1
    · omega
theorem l_see {d : Nat} {n : Nat} {Q : Pst} {σ0 : Mem} {f sd : Int} (hG0 : GR σ0) (hB : BM σ0) : ∀ (k : Nat) (a : Int) (σ : Mem), RS σ0 σ a f sd → (0 ≤ a ∧ a ≤ σ0 69 40) → σ0 69 40 - a < k → (∀ τ, RS σ0 τ (skF (uM σ0) k a) f sd → Q (some (0, uM σ0 (skF (uM σ0) k a))) τ n) → EV d 163 0 [(22, 69)] [] σ n Q := by
  intro k
  induction k with
  | zero => intros; exfalso; omega
  | succ k ih =>
    intro a σ hS ha hk hq
    have hB1 := hB.1
    have e1 := hS.2.1
    have e40 := hS.e40
    have eb := hS.e98 a
    have hb := hB.2.1 a
    refine r_163_0 (ht := fun c => ?_) (hf := fun c => ?_)
    · have u1 : uM σ0 a = -1 := hB.uv.2.1 a (by omega)
      have ek : skF (uM σ0) (k + 1) a = a := by rw [skF_s, if_neg (by omega)]
      refine r_163_38 (ht := fun _ => ?_) (hf := fun c2 => by exfalso; omega)
      refine r_163_65 (k := ?_)
      have q := hq σ (by rw [ek]; exact hS)
      rw [ek, u1] at q
      exact q
    · have u1 := hB.u ha.1 (show a < σ0 69 40 by omega)
      refine r_163_11 (hG := hS.GR hG0) (h0 := by omega) (ht := fun c2 => ?_) (hf := fun c2 => ?_)
      · rw [e1, eb] at c2
        have ek : skF (uM σ0) (k + 1) a = a := by rw [skF_s, if_neg (by rw [u1]; split <;> omega)]
        refine r_163_38 (ht := fun c3 => by exfalso; omega) (hf := fun _ => ?_)
        refine r_163_49 (hG := hS.GR hG0) (h0 := by omega) (k := ?_)
        have q := hq σ (by rw [ek]; exact hS)
        rw [ek, u1] at q
        rw [e1, eb, Zand_255 hb]
        exact q
      · rw [e1, eb] at c2
        have ek : skF (uM σ0) (k + 1) a = skF (uM σ0) k (a + 1) := by rw [skF_s, if_pos (by rw [u1, if_pos (by omega)]; exact c2)]
        refine r_163_25 (k := ?_)
        rw [e1, Zadd_eq (by omega) (by omega)]
        rw [ek] at hq
        exact ih (a + 1) _ hS.at (by omega) (by omega) hq
theorem m_see {d : Nat} {n : Nat} {Q : Pst} {σ0 σ : Mem} {a f sd : Int} (hG0 : GR σ0) (hB : BM σ0) (hS : RS σ0 σ a f sd) (ha : 0 ≤ a ∧ a ≤ σ0 69 40) (k : ∀ τ, RS σ0 τ (sk (uM σ0) a) f sd → Q (some (0, uM σ0 (sk (uM σ0) a))) τ n) : EVM d 163 [(22, 69)] σ n Q := by
  have hB1 := hB.1
  exact l_see hG0 hB 700 a σ hS ha (by omega) k
theorem m_fails {d : Nat} {n : Nat} {Q : Pst} {σ0 σ : Mem} {a f sd w x : Int} (hS : RS σ0 σ a f sd) (hw : 1 ≤ w ∧ w ≤ 2) (hx : 0 ≤ x ∧ x ≤ 600) (k : ∀ τ, RS σ0 τ a (o0 f (w + 4 * x)) sd → Q (some (0, 0)) τ n) : EVM d 164 [(22, 69), (0, w), (0, x)] σ n Q := by
  show EV d 164 0 [(22, 69), (0, w), (0, x)] [] σ n Q
  have e2 := hS.2.2.1
  refine r_164_0 (ht := fun c => ?_) (hf := fun c => ?_)
  · refine r_164_16 (k := k σ ?_)
    unfold o0; rw [if_neg (by omega)]; exact hS
  · refine r_164_7 (k := k _ ?_)
    unfold o0; rw [if_pos (by omega), show Zadd w (Zmul 4 x) = w + 4 * x by (rw [Zmul_eq (by omega) (by omega), Zadd_eq (by omega) (by omega)])]
    exact hS.ft
/-- where the words stand -/
def wPL : List Int := [0, 10, 16, 20, 25, 31, 5]
def wP (i : Int) : Int := wPL.getD i.toNat 0
theorem wd_at : ∀ a : Fin 37, ∀ k : Fin 37, a.val + k.val + 1 < 37 → 1 ≤ k.val → WL (a.val : Int) = 32 → WL ((a.val + k.val + 1 : Nat) : Int) = 32 → (∀ j : Fin 36, j.val < k.val → ¬ WL ((a.val + 1 + j.val : Nat) : Int) = 32) → ∃ i : Fin 7, (a.val : Int) = wP (i.val : Int) ∧ (k.val : Int) = slF (i.val : Int) := by decide +kernel
theorem wd_is : ∀ i : Fin 7, 0 ≤ wP (i.val : Int) ∧ wP (i.val : Int) + slF (i.val : Int) + 1 < 37 ∧ WL (wP (i.val : Int)) = 32 ∧ WL (wP (i.val : Int) + slF (i.val : Int) + 1) = 32 ∧ (∀ j : Fin 5, (j.val : Int) < slF (i.val : Int) → WL (wP (i.val : Int) + 1 + (j.val : Int)) = scF (i.val : Int) (j.val : Int)) := by decide +kernel
theorem l_cnt {d : Nat} {n : Nat} {Q : Pst} {σ0 σ : Mem} {s f sd y0 : Int} (hG0 : GR σ0) (hB : BM σ0) (hS : RS σ0 σ s f sd) (hs : 0 ≤ s) : ∀ (k : Nat) (c : Int) (l3 l4 l5 : AV), (s ≤ c ∧ c ≤ σ0 69 40) → σ0 69 40 - c < k → (∀ l3 l4 l5, EV d 165 58 [(22, 69), (0, y0), (0, ltF (uM σ0) k c - s), l3, l4, l5] [] σ n Q) → EV d 165 7 [(22, 69), (0, y0), (0, c - s), l3, l4, l5] [] σ n Q := by
  intro k
  have hB1 := hB.1
  have e1 := hS.2.1
  have e40 := hS.e40
  induction k with
  | zero => intros; exfalso; omega
  | succ k ih =>
    intro c l3 l4 l5 hc hk hq
    have eb := hS.e98 c
    have hb := hB.2.1 c
    have za : Zadd (σ 69 41) (c - s) = c := by rw [e1, Zadd_eq (by omega) (by omega)]; omega
    have stop : ¬ (97 ≤ uM σ0 c ∧ uM σ0 c ≤ 122) → EV d 165 58 [(22, 69), (0, y0), (0, c - s), l3, l4, l5] [] σ n Q := fun h => by
      have q := hq l3 l4 l5
      rw [ltF_s, if_neg h] at q
      exact q
    refine r_165_7 (ht := fun c2 => ?_) (hf := fun c2 => ?_)
    · have u1 : uM σ0 c = -1 := hB.uv.2.1 c (by omega)
      exact stop (by omega)
    · have u1 := hB.u (x := c) (by omega) (show c < σ0 69 40 by omega)
      refine r_165_20 (hG := hS.GR hG0) (h0 := by omega) (ht := fun c3 => ?_) (hf := fun c3 => ?_)
      · rw [za, eb] at c3
        exact stop (by rw [u1]; split <;> omega)
      · rw [za, eb] at c3
        refine r_165_36 (hG := hS.GR hG0) (h0 := by omega) (ht := fun c4 => ?_) (hf := fun c4 => ?_)
        · rw [za, eb] at c4
          exact stop (by rw [u1]; split <;> omega)
        · rw [za, eb] at c4
          refine r_165_52 (k := ?_)
          rw [Zadd_eq (by omega) (by omega), show c - s + 1 = c + 1 - s by omega]
          refine ih (c + 1) _ _ _ (by omega) (by omega) ?_
          rw [ltF_s, if_pos (by rw [u1, if_pos (by omega)]; omega)] at hq
          exact hq
theorem l_cmpw {d : Nat} {n : Nat} {Q : Pst} {σ0 σ : Mem} {s f sd y0 m at_ : Int} (hG0 : GR σ0) (hB : BM σ0) (hS : RS σ0 σ s f sd) (hs : 0 ≤ s) (hm : 0 < m ∧ s + m ≤ σ0 69 40) (ha : 0 ≤ at_ ∧ at_ + m + 1 < 37) (h1 : (∀ j, 0 ≤ j → j < m → WL (at_ + 1 + j) = σ0 98 (s + j)) → ∀ l, EV d 165 160 [(22, 69), (0, y0), (0, m), (0, at_), (0, 1), (0, l)] [] σ n Q) (h0 : ¬ (∀ j, 0 ≤ j → j < m → WL (at_ + 1 + j) = σ0 98 (s + j)) → ∀ l, EV d 165 160 [(22, 69), (0, y0), (0, m), (0, at_), (0, 0), (0, l)] [] σ n Q) : ∀ (k : Nat) (j : Nat), m - j < k → (j : Int) ≤ m → (∀ i, 0 ≤ i → i < (j : Int) → WL (at_ + 1 + i) = σ0 98 (s + i)) → EV d 165 110 [(22, 69), (0, y0), (0, m), (0, at_), (0, 1), (0, (j : Int))] [] σ n Q := by
  intro k
  have hB1 := hB.1
  have e1 := hS.2.1
  induction k with
  | zero => intros; exfalso; omega
  | succ k ih =>
    intro j hk hj hi
    have z1 : Zadd (Zadd at_ 1) (j : Int) = at_ + 1 + j := by rw [Zadd_eq (a := at_) (by omega) (by omega), Zadd_eq (by omega) (by omega)]
    have z2 : Zadd (σ 69 41) (j : Int) = s + j := by rw [e1, Zadd_eq (by omega) (by omega)]
    refine r_165_110 (ht := fun c => absurd c (by decide)) (hf := fun _ => ?_)
    refine r_165_115 (ht := fun c => ?_) (hf := fun c => ?_)
    · exact h1 (fun i h0 h1 => hi i h0 (by omega)) _
    · have ew : σ 107 (at_ + 1 + j) = WL (at_ + 1 + j) := by rw [hS.1 107 _ (by omega)]; exact hB.2.2 _ (by omega) (by omega)
      refine r_165_121 (hG := hS.GR hG0) (h0 := by rw [z1]; omega) (h1 := by rw [z2]; omega) (ht := fun c2 => ?_) (hf := fun c2 => ?_)
      · rw [z1, z2, ew, hS.e98] at c2
        refine r_165_151 (k := ?_)
        refine r_165_110 (ht := fun _ => ?_) (hf := fun c => absurd rfl c)
        exact h0 (fun z => c2 (z j (by omega) c)) _
      · rw [z1, z2, ew, hS.e98] at c2
        refine r_165_147 (k := ?_)
        rw [Zadd_nat (by omega)]
        refine ih (j + 1) (by omega) (by omega) (fun i h0 h1 => ?_)
        by_cases q : i = (j : Int)
        · rw [q]; exact c2
        · exact hi i h0 (by omega)
theorem l_find_w {d : Nat} {n : Nat} {Q : Pst} {σ0 σ : Mem} {s f sd y0 m : Int} (hG0 : GR σ0) (hB : BM σ0) (hS : RS σ0 σ s f sd) (hs : 0 ≤ s) (hm : 0 ≤ m ∧ s + m ≤ σ0 69 40) (hlt : ∀ x, s ≤ x → x < s + m → 97 ≤ uM σ0 x ∧ uM σ0 x ≤ 122) (h1 : ∀ i : Nat, i < 7 → wB i (uM σ0) s (s + m) = true → ∀ τ, RS σ0 τ (s + m) f sd → Q (some (0, wP i + 1)) τ n) (h0 : (∀ i : Nat, i < 7 → ¬ wB i (uM σ0) s (s + m) = true) → Q (some (0, 0)) σ n) : ∀ (k : Nat) (a : Nat) (l4 l5 : AV), a ≤ 37 → 37 - a < k → (∀ i : Nat, i < 7 → wB i (uM σ0) s (s + m) = true → (a : Int) ≤ wP i) → EV d 165 60 [(22, 69), (0, y0), (0, m), (0, (a : Int)), l4, l5] [] σ n Q := by
  intro k
  have hB1 := hB.1
  have e1 := hS.2.1
  have eB : ∀ x, s ≤ x → x < s + m → σ0 98 x = uM σ0 x := fun x a1 a2 => by
    have u1 := hB.u (x := x) (by omega) (by omega)
    have l1 := hlt x a1 a2
    have hb := hB.2.1 x
    rw [u1] at l1 ⊢
    split at l1
    · rename_i q; rw [if_pos q]
    · omega
  induction k with
  | zero =>
    intro a l4 l5 ha37 hk hinv
    exfalso; omega
  | succ k ih =>
    intro a l4 l5 ha37 hk hinv
    refine r_165_60 (ht := fun c => ?_) (hf := fun c => ?_)
    · refine r_165_188 (k := h0 (fun i hi z => ?_))
      have q1 := (wB_iff.mp z).1
      have q2 : 3 ≤ slF (i : Int) ∧ slF (i : Int) ≤ 5 := slF_b ⟨i, hi⟩
      omega
    · have none : (36 : Int) ≤ a + m → Q (some (0, 0)) σ n := fun hh => h0 (fun i hi z => by
        have q1 := (wB_iff.mp z).1
        have q2 := hinv i hi z
        have q3 := (wd_is ⟨i, hi⟩).2.1
        have q4 : wP (i : Int) + slF (i : Int) + 1 < 37 := q3
        omega)
      by_cases hbig : (36 : Int) ≤ a + m
      · have z0 : 37 ≤ Zadd (Zadd (a : Int) m) 1 := by
          rw [Zadd_eq (a := (a : Int)) (by omega) (by omega), Zadd_eq (by omega) (by omega)]; omega
        refine r_165_64 (ht := fun _ => ?_) (hf := fun c2 => by exfalso; omega)
        exact r_165_188 (k := none hbig)
      · have z0 : Zadd (Zadd (a : Int) m) 1 = a + m + 1 := by rw [Zadd_eq (a := (a : Int)) (by omega) (by omega), Zadd_eq (by omega) (by omega)]
        -- not here: the next place
        have go : ¬ (WL a = 32 ∧ WL (a + m + 1) = 32 ∧ ∀ j, 0 ≤ j → j < m → WL (a + 1 + j) = σ0 98 (s + j)) → ∀ l, EV d 165 160 [(22, 69), (0, y0), (0, m), (0, (a : Int)), (0, 0), (0, l)] [] σ n Q := fun hn l => by
          refine r_165_160 (ht := fun c => absurd rfl c) (hf := fun _ => ?_)
          refine r_165_165 (k := ?_)
          rw [Zadd_nat (by omega)]
          refine ih (a + 1) _ _ (by omega) (by omega) (fun i hi z => ?_)
          have q2 := hinv i hi z
          by_cases e : (a : Int) = wP i
          · exfalso
            apply hn
            obtain ⟨w1, w2⟩ := wB_iff.mp z
            obtain ⟨p1, p2, p3, p4, p5⟩ := wd_is ⟨i, hi⟩
            have p3 : WL (wP (i : Int)) = 32 := p3
            have p4 : WL (wP (i : Int) + slF (i : Int) + 1) = 32 := p4
            refine ⟨by rw [e]; exact p3, ?_, fun j j0 j1 => ?_⟩
            · rw [e, show m = slF (i : Int) by omega]; exact p4
            · have q3 : 3 ≤ slF (i : Int) ∧ slF (i : Int) ≤ 5 := slF_b ⟨i, hi⟩
              have p6 := p5 ⟨j.toNat, by omega⟩ (by show ((j.toNat : Nat) : Int) < slF (i : Int); omega)
              have p6 : WL (wP (i : Int) + 1 + ((j.toNat : Nat) : Int)) = scF (i : Int) ((j.toNat : Nat) : Int) := p6
              rw [show ((j.toNat : Nat) : Int) = j by omega] at p6
              rw [e, p6, ← w2 j j0 (by omega), eB _ (by omega) (by omega)]
          · omega
        have yes : (WL a = 32 ∧ WL (a + m + 1) = 32 ∧ ∀ j, 0 ≤ j → j < m → WL (a + 1 + j) = σ0 98 (s + j)) → ∀ l, EV d 165 160 [(22, 69), (0, y0), (0, m), (0, (a : Int)), (0, 1), (0, l)] [] σ n Q := fun hy l => by
          obtain ⟨y1, y2, y3⟩ := hy
          refine r_165_160 (ht := fun _ => ?_) (hf := fun c => absurd c (by decide))
          refine r_165_168 (k := ?_)
          rw [e1, Zadd_eq (a := s) (by omega) (by omega), Zadd_eq (by omega) (by omega)]
          obtain ⟨⟨i, hi⟩, i1, i2⟩ := wd_at ⟨a, by omega⟩ ⟨m.toNat, by omega⟩ (by show a + m.toNat + 1 < 37; omega) (by show 1 ≤ m.toNat; omega) y1 (by
            show WL ((a + m.toNat + 1 : Nat) : Int) = 32
            rw [show ((a + m.toNat + 1 : Nat) : Int) = a + m + 1 by omega]; exact y2) (fun j hj => by
            have hj : j.val < m.toNat := hj
            show ¬ WL ((a + 1 + j.val : Nat) : Int) = 32
            rw [show ((a + 1 + j.val : Nat) : Int) = a + 1 + (j.val : Int) by omega, y3 j.val (by omega) (by omega), eB _ (by omega) (by omega)]
            have := hlt (s + (j.val : Int)) (by omega) (by omega)
            omega)
          have i1 : (a : Int) = wP (i : Int) := i1
          have i2 : ((m.toNat : Nat) : Int) = slF (i : Int) := i2
          have hw : wB i (uM σ0) s (s + m) = true := wB_iff.mpr ⟨by omega, fun j j0 j1 => by
            obtain ⟨p1, p2, p3, p4, p5⟩ := wd_is ⟨i, hi⟩
            have q3 : 3 ≤ slF (i : Int) ∧ slF (i : Int) ≤ 5 := slF_b ⟨i, hi⟩
            have p6 := p5 ⟨j.toNat, by omega⟩ (by show ((j.toNat : Nat) : Int) < slF (i : Int); omega)
            have p6 : WL (wP (i : Int) + 1 + ((j.toNat : Nat) : Int)) = scF (i : Int) ((j.toNat : Nat) : Int) := p6
            rw [show ((j.toNat : Nat) : Int) = j by omega] at p6
            rw [← p6, ← i1, y3 j j0 (by omega), eB _ (by omega) (by omega)]⟩
          rw [i1]
          exact h1 i hi hw _ hS.at
        refine r_165_64 (ht := fun c2 => by exfalso; omega) (hf := fun _ => ?_)
        have ew : ∀ x, 0 ≤ x → x < 37 → σ 107 x = WL x := fun x a0 a1 => by rw [hS.1 107 x (by omega)]; exact hB.2.2 x a0 a1
        refine r_165_74 (hG := hS.GR hG0) (h0 := by omega) (ht := fun c2 => ?_) (hf := fun c2 => ?_)
        · rw [ew _ (by omega) (by omega)] at c2
          refine r_165_104 (k := ?_)
          refine r_165_110 (ht := fun _ => ?_) (hf := fun c => absurd rfl c)
          exact go (fun z => c2 z.1) _
        · rw [ew _ (by omega) (by omega)] at c2
          refine r_165_85 (hG := hS.GR hG0) (h0 := by rw [z0]; omega) (ht := fun c3 => ?_) (hf := fun c3 => ?_)
          · rw [z0, ew _ (by omega) (by omega)] at c3
            refine r_165_104 (k := ?_)
            refine r_165_110 (ht := fun _ => ?_) (hf := fun c => absurd rfl c)
            exact go (fun z => c3 z.2.1) _
          · rw [z0, ew _ (by omega) (by omega)] at c3
            refine r_165_100 (k := ?_)
            exact l_cmpw hG0 hB hS hs (by omega) (by omega) (fun z => yes ⟨c2, c3, z⟩) (fun z => go (fun y => z y.2.2)) (m.toNat + 1) 0 (by omega) (by omega) (fun i a0 a1 => by omega)
theorem m_word {d : Nat} {n : Nat} {Q : Pst} {σ0 σ : Mem} {a f sd : Int} (hG0 : GR σ0) (hB : BM σ0) (hS : RS σ0 σ a f sd) (ha : 0 ≤ a ∧ a ≤ σ0 69 40) (h1 : ∀ i : Nat, i < 7 → wB i (uM σ0) (sk (uM σ0) a) (lt (uM σ0) (sk (uM σ0) a)) = true → ∀ τ, RS σ0 τ (lt (uM σ0) (sk (uM σ0) a)) f sd → Q (some (0, wP i + 1)) τ n) (h0 : (∀ i : Nat, i < 7 → ¬ wB i (uM σ0) (sk (uM σ0) a) (lt (uM σ0) (sk (uM σ0) a)) = true) → ∀ τ, RS σ0 τ (sk (uM σ0) a) f sd → Q (some (0, 0)) τ n) : EVM (d + 1) 165 [(22, 69)] σ n Q := by
  show EV (d + 1) 165 0 [(22, 69), (9, 0), (9, 0), (9, 0), (9, 0), (9, 0)] [] σ n Q
  have hB1 := hB.1
  have b1 := sk_b hB.uv ha.1 ha.2
  have b2 := lt_b hB.uv (a := sk (uM σ0) a) (by omega) (by omega)
  refine r_165_0 (k := ?_)
  refine m_see hG0 hB hS ha (fun τ S => ?_)
  dsimp only [Option.toList_some, List.cons_append, List.nil_append]
  refine r_165_4 (k := ?_)
  rw [← Int.sub_self (sk (uM σ0) a)]
  refine l_cnt hG0 hB S (by omega) 700 (sk (uM σ0) a) _ _ _ (by omega) (by omega) (fun l3 l4 l5 => ?_)
  refine r_165_58 (k := ?_)
  show EV (d + 1) 165 60 [(22, 69), (0, uM σ0 (sk (uM σ0) a)), (0, lt (uM σ0) (sk (uM σ0) a) - sk (uM σ0) a), (0, 0), l4, l5] [] τ n Q
  have em : sk (uM σ0) a + (lt (uM σ0) (sk (uM σ0) a) - sk (uM σ0) a) = lt (uM σ0) (sk (uM σ0) a) := by omega
  exact l_find_w hG0 hB S (by omega) (by omega) (fun x x0 x1 => ltF_l 700 _ x x0 (by rw [em] at x1; exact x1)) (fun i hi z τ2 S2 => by rw [em] at z S2; exact h1 i hi z τ2 S2) (fun z => h0 (fun i hi z2 => z i hi (by rw [em]; exact z2)) τ S) 38 0 _ _ (by omega) (by omega) (fun i hi _ => by have := (wd_is ⟨i, hi⟩).1; exact this)
theorem l_mnum {d : Nat} {n : Nat} {Q : Pst} {σ0 : Mem} {f sd s lo hi y0 : Int} (hG0 : GR σ0) (hB : BM σ0) (hs : 0 ≤ s) : ∀ (k : Nat) (a v : Int) (σ : Mem), RS σ0 σ a f sd → (s ≤ a ∧ a ≤ σ0 69 40) → σ0 69 40 - a < k → dgI (a - s) v → (∀ τ, RS σ0 τ (dgF (uM σ0) k a (a - s) v).1 f sd → EV d 166 120 [(22, 69), (0, lo), (0, hi), (0, y0), (0, s), (0, (dgF (uM σ0) k a (a - s) v).2), (0, (dgF (uM σ0) k a (a - s) v).1 - s)] [] τ n Q) → EV d 166 39 [(22, 69), (0, lo), (0, hi), (0, y0), (0, s), (0, v), (0, a - s)] [] σ n Q := by
  intro k
  induction k with
  | zero => intros; exfalso; omega
  | succ k ih =>
    intro a v σ hS ha hk hd hq
    have hB1 := hB.1
    have e1 := hS.2.1
    have e40 := hS.e40
    have eb := hS.e98 a
    have hb := hB.2.1 a
    have stop : ¬ (48 ≤ uM σ0 a ∧ uM σ0 a ≤ 57) → EV d 166 120 [(22, 69), (0, lo), (0, hi), (0, y0), (0, s), (0, v), (0, a - s)] [] σ n Q := fun h => by
      have q := hq σ (by rw [dgF_s, if_neg h]; exact hS)
      rw [dgF_s, if_neg h] at q
      exact q
    refine r_166_39 (ht := fun c => ?_) (hf := fun c => ?_)
    · have u1 : uM σ0 a = -1 := hB.uv.2.1 a (by omega)
      exact stop (by omega)
    · have u1 := hB.u (x := a) (by omega) (show a < σ0 69 40 by omega)
      refine r_166_50 (hG := hS.GR hG0) (h0 := by omega) (ht := fun c2 => ?_) (hf := fun c2 => ?_)
      · rw [e1, eb] at c2
        exact stop (by rw [u1]; split <;> omega)
      · rw [e1, eb] at c2
        refine r_166_64 (hG := hS.GR hG0) (h0 := by omega) (ht := fun c3 => ?_) (hf := fun c3 => ?_)
        · rw [e1, eb] at c3
          exact stop (by rw [u1]; split <;> omega)
        · rw [e1, eb] at c3
          rw [if_pos (by omega)] at u1
          have hd2 := dgI_s hd (show 48 ≤ uM σ0 a ∧ uM σ0 a ≤ 57 by omega)
          have nx : ∀ v2, v2 = (if a - s < 5 then v * 10 + uM σ0 a - 48 else v) → EV d 166 39 [(22, 69), (0, lo), (0, hi), (0, y0), (0, s), (0, v2), (0, Zadd (a - s) 1)] [] (wrM σ 69 41 (Zadd (σ 69 41) 1)) n Q := fun v2 e2 => by
            rw [← e2] at hd2
            rw [e1, Zadd_eq (a := a) (by omega) (by omega), Zadd_eq (by omega) (by omega), show a - s + 1 = a + 1 - s by omega]
            refine ih (a + 1) v2 _ hS.at (by omega) (by omega) (by rw [show a + 1 - s = a - s + 1 by omega]; exact hd2) ?_
            rw [dgF_s, if_pos (by omega), ← e2] at hq
            rw [show a + 1 - s = a - s + 1 by omega]
            exact hq
          refine r_166_78 (ht := fun c4 => ?_) (hf := fun c4 => ?_)
          · refine r_166_104 (k := ?_)
            exact nx v (by rw [if_neg (by omega)])
          · refine r_166_84 (hG := hS.GR hG0) (h0 := by omega) (k := ?_)
            refine nx _ ?_
            unfold dgI at hd
            rw [if_pos c4, e1, eb, Zmul_eq (by omega) (by omega), Zadd_eq (by omega) (by omega), Zsub_eq (by omega) (by omega)]
            omega
theorem m_number {d : Nat} {n : Nat} {Q : Pst} {σ0 σ : Mem} {a f sd lo hi : Int} (hG0 : GR σ0) (hB : BM σ0) (hS : RS σ0 σ a f sd) (ha : 0 ≤ a ∧ a ≤ σ0 69 40) (ht : nmF (uM σ0) a lo hi = 0 → ∀ τ, RS σ0 τ (dgE (uM σ0) a) f (dgV (uM σ0) a) → Q (some (0, 1)) τ n) (hf : ¬ nmF (uM σ0) a lo hi = 0 → ∀ τ a2 sd2, RS σ0 τ a2 (o0 f (nmF (uM σ0) a lo hi)) sd2 → Q (some (0, 0)) τ n) : EVM (d + 1) 166 [(22, 69), (0, lo), (0, hi)] σ n Q := by
  show EV (d + 1) 166 0 [(22, 69), (0, lo), (0, hi), (9, 0), (9, 0), (9, 0), (9, 0)] [] σ n Q
  have hB1 := hB.1
  have b1 := dg_b hB.uv ha.1 ha.2
  refine r_166_0 (k := ?_)
  refine m_see hG0 hB hS ha (fun τ S => ?_)
  dsimp only [Option.toList_some, List.cons_append, List.nil_append]
  have e1 := S.2.1
  have d0 : dgF (uM σ0) 700 (sk (uM σ0) a) 0 0 = dgF (uM σ0) (699 + 1) (sk (uM σ0) a) 0 0 := rfl
  have bad : ¬ (48 ≤ uM σ0 (sk (uM σ0) a) ∧ uM σ0 (sk (uM σ0) a) ≤ 57) → EV (d + 1) 166 17 [(22, 69), (0, lo), (0, hi), (0, uM σ0 (sk (uM σ0) a)), (9, 0), (9, 0), (9, 0)] [] τ n Q := fun h => by
    have ed : dgE (uM σ0) a = sk (uM σ0) a := by unfold dgE; rw [d0, dgF_s, if_neg h]
    have en : nmF (uM σ0) a lo hi = 1 + 4 * sk (uM σ0) a := if_pos ed
    refine r_166_17 (k := ?_)
    rw [e1]
    refine m_fails S (by omega) (by omega) (fun τ2 S2 => ?_)
    dsimp only [Option.toList_some, List.cons_append, List.nil_append]
    refine r_166_26 (h0 := Or.inl rfl) (k := hf (by omega) τ2 _ _ (by rw [en]; exact S2))
  refine r_166_4 (ht := fun c => bad (by omega)) (hf := fun c => ?_)
  refine r_166_11 (ht := fun c2 => ?_) (hf := fun c2 => bad (by omega))
  have ed : sk (uM σ0) a + 1 ≤ dgE (uM σ0) a := by
    unfold dgE
    rw [d0, dgF_s, if_pos ⟨c, c2⟩]
    have hN : sk (uM σ0) a < σ0 69 40 := by
      rcases Int.lt_or_le (sk (uM σ0) a) (σ0 69 40) with q | q
      · exact q
      · have := hB.uv.2.1 _ q; omega
    exact (dgF_b hB.uv 699 _ _ _ (by omega) (by omega) (dgI_s (c := 0) (v := 0) (by unfold dgI; omega) ⟨c, c2⟩)).1
  refine r_166_27 (k := ?_)
  rw [e1]
  have q := l_mnum (lo := lo) (hi := hi) (y0 := uM σ0 (sk (uM σ0) a)) (Q := Q) (n := n) (d := d + 1) hG0 hB (s := sk (uM σ0) a) (by omega) 700 (sk (uM σ0) a) 0 τ S (by omega) (by omega) (by unfold dgI; omega)
  rw [Int.sub_self] at q
  refine q (fun τ2 S2 => ?_)
  have S2 : RS σ0 τ2 (dgE (uM σ0) a) f sd := S2
  show EV (d + 1) 166 120 [(22, 69), (0, lo), (0, hi), (0, uM σ0 (sk (uM σ0) a)), (0, sk (uM σ0) a), (0, dgV (uM σ0) a), (0, dgE (uM σ0) a - sk (uM σ0) a)] [] τ2 n Q
  have nb : 5 < dgE (uM σ0) a - sk (uM σ0) a ∨ ¬ (lo ≤ dgV (uM σ0) a ∧ dgV (uM σ0) a ≤ hi) → EV (d + 1) 166 142 [(22, 69), (0, lo), (0, hi), (0, uM σ0 (sk (uM σ0) a)), (0, sk (uM σ0) a), (0, dgV (uM σ0) a), (0, dgE (uM σ0) a - sk (uM σ0) a)] [] (wrM τ2 69 54 (dgV (uM σ0) a)) n Q := fun h => by
    have en : nmF (uM σ0) a lo hi = 2 + 4 * sk (uM σ0) a := by unfold nmF; rw [if_neg (by omega), if_pos h]
    refine r_166_142 (k := ?_)
    refine m_fails S2.sd (by omega) (by omega) (fun τ3 S3 => ?_)
    dsimp only [Option.toList_some, List.cons_append, List.nil_append]
    refine r_166_149 (ht := fun _ => ?_) (hf := fun c => absurd rfl c)
    exact r_166_156 (k := hf (by omega) τ3 _ _ (by rw [en]; exact S3))
  refine r_166_120 (ht := fun c3 => nb (Or.inl c3)) (hf := fun c3 => ?_)
  refine r_166_132 (k := ?_)
  refine m_in (fun c4 => ?_) (fun c4 => ?_)
  · dsimp only [Option.toList_some, List.cons_append, List.nil_append]
    refine r_166_139 (ht := fun _ => ?_) (hf := fun c => absurd c (by decide))
    have en : nmF (uM σ0) a lo hi = 0 := by unfold nmF; rw [if_neg (by omega), if_neg (by omega)]
    exact r_166_152 (k := ht en _ S2.sd)
  · dsimp only [Option.toList_some, List.cons_append, List.nil_append]
    refine r_166_139 (ht := fun c => absurd rfl c) (hf := fun _ => ?_)
    exact nb (Or.inr c4)
