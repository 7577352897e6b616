/-! plan: the class -/
/-- who may be in a team -/
def tmV (P : Nat) (t : Tm) : Prop := (0 ≤ t.1 ∧ t.1 < (P : Int)) ∧ (-1 ≤ t.2.1 ∧ t.2.1 < (P : Int))
theorem sgN_v {ab : Int → Int → Bool} {tg : Int} (P k : Nat) (hk : k ≤ P) : ∀ t ∈ sgN ab tg k, tmV P t := by
  induction k with
  | zero => intro t h; exact absurd h List.not_mem_nil
  | succ k ih =>
    intro t h
    rw [sgN_s] at h
    rcases List.mem_append.mp h with q | q
    · exact ih (by omega) t q
    · split at q
      · have e : t = ((k : Int), -1, -1) := by simpa using q
        subst e
        exact ⟨⟨by show (0 : Int) ≤ k; omega, by show (k : Int) < P; omega⟩, ⟨by show (-1 : Int) ≤ -1; omega, by show (-1 : Int) < P; omega⟩⟩
      · exact absurd q List.not_mem_nil
theorem prI_v {ab : Int → Int → Bool} {tg : Int} (P x k : Nat) (hx : x < P) (hk : k ≤ P) : ∀ t ∈ prI ab tg x k, tmV P t := by
  induction k with
  | zero => intro t h; exact absurd h List.not_mem_nil
  | succ k ih =>
    intro t h
    rw [prI_s] at h
    rcases List.mem_append.mp h with q | q
    · exact ih (by omega) t q
    · split at q
      · have e : t = ((x : Int), (k : Int), -1) := by simpa using q
        subst e
        exact ⟨⟨by show (0 : Int) ≤ x; omega, by show (x : Int) < P; omega⟩, ⟨by show (-1 : Int) ≤ k; omega, by show (k : Int) < P; omega⟩⟩
      · exact absurd q List.not_mem_nil
theorem prN_v {ab : Int → Int → Bool} {tg : Int} (P k : Nat) (hk : k ≤ P) : ∀ t ∈ prN ab tg P k, tmV P t := by
  induction k with
  | zero => intro t h; exact absurd h List.not_mem_nil
  | succ k ih =>
    intro t h
    rw [prN_s] at h
    rcases List.mem_append.mp h with q | q
    · exact ih (by omega) t q
    · exact prI_v P k P (by omega) (Nat.le_refl _) t q
theorem rlI_v {ab : Int → Int → Bool} {tg : Int} (P x k : Nat) (hx : x < P) (hk : k ≤ P) : ∀ t ∈ rlI ab tg x k, tmV P t := by
  induction k with
  | zero => intro t h; exact absurd h List.not_mem_nil
  | succ k ih =>
    intro t h
    rw [rlI_s] at h
    rcases List.mem_append.mp h with q | q
    · exact ih (by omega) t q
    · split at q
      · exact absurd q List.not_mem_nil
      · have e : t = ((x : Int), (k : Int), rlX ab x k tg) := by simpa using q
        subst e
        exact ⟨⟨by show (0 : Int) ≤ x; omega, by show (x : Int) < P; omega⟩, ⟨by show (-1 : Int) ≤ k; omega, by show (k : Int) < P; omega⟩⟩
theorem rlN_v {ab : Int → Int → Bool} {tg : Int} (P k : Nat) (hk : k ≤ P) : ∀ t ∈ rlN ab tg P k, tmV P t := by
  induction k with
  | zero => intro t h; exact absurd h List.not_mem_nil
  | succ k ih =>
    intro t h
    rw [rlN_s] at h
    rcases List.mem_append.mp h with q | q
    · exact ih (by omega) t q
    · exact rlI_v P k P (by omega) (Nat.le_refl _) t q
theorem tmL_v {ab : Int → Int → Bool} {P : Nat} {lg : Prop} [Decidable lg] {tg : Int} : ∀ t ∈ tmL ab P lg tg, tmV P t := by
  intro t h
  unfold tmL at h
  split at h
  · exact prN_v P P (Nat.le_refl _) t h
  · split at h
    · exact rlN_v P P (Nat.le_refl _) t h
    · exact sgN_v P P (Nat.le_refl _) t h
theorem getD_v {l : List Tm} {P : Nat} (h : ∀ t ∈ l, tmV P t) (x : Nat) : tmV P (l.getD x (-1, -1, -1)) ∨ l.getD x (-1, -1, -1) = (-1, -1, -1) := by
  rw [List.getD_eq_getElem?_getD]
  rcases Nat.lt_or_ge x l.length with q | q
  · rw [List.getElem?_eq_getElem q]
    exact Or.inl (h _ (List.getElem_mem q))
  · rw [List.getElem?_eq_none q]
    exact Or.inr rfl
theorem TMv_of {TM : Nat → List Tm} (h : ∀ s, ∀ t ∈ TM s, tmV 5 t) : TMv TM := fun s x => by
  rcases getD_v (h s) x with ⟨⟨q1, q2⟩, ⟨q3, q4⟩⟩ | q
  · exact ⟨⟨by omega, by omega⟩, ⟨by omega, by omega⟩⟩
  · rw [q]; exact ⟨⟨by decide, by decide⟩, ⟨by decide, by decide⟩⟩
/-- the plan of a day -/
def plB (keep : Bool) (C : Cst) (TM : Nat → List Tm) (m : Nat) : Bst := sF keep C (fun s => (TM s).length) m [] ((m : Int) + 1, 0, 0, [])
/-- nobody is sent: a plan that holds -/
def nobody (TM : Nat → List Tm) (m : Nat) : List Int := (List.range m).map (fun s => ((TM s).length : Int))
theorem nobody_at {TM : Nat → List Tm} {m s : Nat} (h : s < m) : (nobody TM m).getD s 0 = ((TM s).length : Int) := by
  unfold nobody
  rw [List.getD_eq_getElem?_getD, List.getElem?_map, List.getElem?_range h]; rfl
theorem nobody_len {TM : Nat → List Tm} {m : Nat} : (nobody TM m).length = m := by unfold nobody; simp
theorem nobody_ok {P : Nat} {TM : Nat → List Tm} {L : List Int} {bg : Int → Int} {al : Int → Int → Bool} {tr : Int → List Int → Int} {s1 s2 : Nat → Int} : (cst P TM L bg al tr s1 s2).1 (nobody TM L.length) = true := by
  refine allN_iff.mpr (fun p hp => ?_)
  have e : L.filter (sH TM L (nobody TM L.length) (p : Int)) = [] := by
    rw [List.filter_eq_nil_iff]
    intro x hx
    have hi := ix_at L hx
    have hlt : ix L x < L.length := by
      rcases Nat.lt_or_ge (ix L x) L.length with q | q
      · exact q
      · rw [List.getElem?_eq_none q] at hi; cases hi
    unfold sH tmA
    rw [nobody_at hlt, Int.toNat_natCast, List.getD_eq_getElem?_getD, List.getElem?_eq_none (Nat.le_refl _)]
    show ¬ sitA (-1, -1, -1) (p : Int) = true
    unfold sitA
    rw [decide_eq_true_iff]
    show ¬ ((-1 : Int) = p ∨ (-1 : Int) = p)
    omega
  show hoR al (isR bg (L.filter (sH TM L (nobody TM L.length) (p : Int)))) = true
  rw [e]; rfl
theorem plB_eq {keep : Bool} {P : Nat} {TM : Nat → List Tm} {L : List Int} {bg : Int → Int} {al : Int → Int → Bool} {tr : Int → List Int → Int} {s1 s2 : Nat → Int} {B : Bst} (hB : (L.length : Int) < B.1) : sF keep (cst P TM L bg al tr s1 s2) (fun s => (TM s).length) L.length [] B = plB keep (cst P TM L bg al tr s1 s2) TM L.length ∧ (plB keep (cst P TM L bg al tr s1 s2) TM L.length).1 ≤ (L.length : Int) := by
  obtain ⟨h1, h2⟩ := sF_same (keep := keep) (C := cst P TM L bg al tr s1 s2) (N := fun s => (TM s).length) (M := (L.length : Int)) (r := L.length) (A := B) (B := ((L.length : Int) + 1, 0, 0, [])) (fun tl htl => by have := (cst_wo (P := P) (TM := TM) (L := L) (bg := bg) (al := al) (tr := tr) (s1 := s1) (s2 := s2) tl).2; rw [htl] at this; exact this) hB (by show (L.length : Int) < L.length + 1; omega) (nobody TM L.length) nobody_len (fun s hs => by rw [nobody_at hs]; omega) nobody_ok
  refine ⟨h1, ?_⟩
  unfold plB
  rw [← h1]; exact h2
theorem wgh_n {keep : Bool} {C : Cst} {B : Bst} {c : List Int} (h1 : ∀ s, 0 ≤ B.2.2.2.getD s 0) (h2 : ∀ s, 0 ≤ c.getD s 0) : ∀ s, 0 ≤ (wgh keep C B c).2.2.2.getD s 0 := by
  intro s
  unfold wgh
  split
  · exact h2 s
  · exact h1 s
theorem sF_n {keep : Bool} {C : Cst} {N : Nat → Nat} : ∀ (r : Nat) (pf : List Int) (B : Bst), (∀ s, 0 ≤ B.2.2.2.getD s 0) → (∀ s, 0 ≤ pf.getD s 0) → ∀ s, 0 ≤ (sF keep C N r pf B).2.2.2.getD s 0 := by
  intro r
  induction r with
  | zero => intro pf B h1 h2; exact wgh_n h1 h2
  | succ r ih =>
    intro pf B h1 h2
    rw [sF_s]
    generalize N pf.length + 1 = n
    induction n with
    | zero => exact h1
    | succ n ih2 =>
      rw [itN_s]
      refine ih _ _ ih2 (fun s => ?_)
      rcases Nat.lt_trichotomy s pf.length with q | q | q
      · rw [getD_app q]; exact h2 s
      · rw [q, getD_last]; omega
      · rw [List.getD_eq_getElem?_getD, List.getElem?_eq_none (by rw [List.length_append]; simp; omega)]; exact Int.le_refl 0
theorem plB_n {keep : Bool} {C : Cst} {TM : Nat → List Tm} {m : Nat} : ∀ s, 0 ≤ (plB keep C TM m).2.2.2.getD s 0 := sF_n m [] _ (fun s => by show 0 ≤ ([] : List Int).getD s 0; simp) (fun s => by simp)
/-- the seats that a plan gives -/
def plT (B : Bst) (TM : Nat → List Tm) (s : Nat) : Tm := (TM s).getD (B.2.2.2.getD s 0).toNat (-1, -1, -1)
theorem l_seats {d : Nat} {n : Nat} {Q : Pst} {σ0 : Mem} {L rv : List Int} {TM : Nat → List Tm} {B : Bst} {x1 : Int} (hG0 : GR σ0) (hS0 : SH σ0 L rv) (hd : dst L) (hL : ∀ h ∈ L, 0 ≤ h) (h8 : σ0 24 8 = (L.length : Int)) (hT : TMs σ0 TM L.length) (hl20 : ∀ s, (TM s).length ≤ 20) (h49 : ∀ s : Nat, s < L.length → σ0 49 (s : Int) = B.2.2.2.getD s 0) (hn : ∀ s, 0 ≤ B.2.2.2.getD s 0) (k : ∀ τ, (∀ c j, ¬ (114 ≤ c ∧ (j = 9 ∨ j = 10)) → τ c j = σ0 c j) → (∀ h j, 0 ≤ h → h ∉ L → τ (114 + h) j = σ0 (114 + h) j) → (∀ s : Nat, s < L.length → τ (114 + L.getD s 0) 9 = (plT B TM s).1 ∧ τ (114 + L.getD s 0) 10 = (plT B TM s).2.1) → Q none τ n) : ∀ (f i : Nat) (l3 : AV) (σ : Mem), (∀ c j, ¬ (114 ≤ c ∧ (j = 9 ∨ j = 10)) → σ c j = σ0 c j) → (∀ h j, 0 ≤ h → h ∉ L → σ (114 + h) j = σ0 (114 + h) j) → (∀ s : Nat, s < i → σ (114 + L.getD s 0) 9 = (plT B TM s).1 ∧ σ (114 + L.getD s 0) 10 = (plT B TM s).2.1) → i ≤ L.length → L.length - i < f → EV (d + 2) 41 40 [(17, 24), (0, x1), (0, (i : Int)), l3] [] σ n Q := by
  intro f
  have s2 := hS0.2.1
  induction f with
  | zero => intros; exfalso; omega
  | succ f ih =>
    intro i l3 σ hf hf2 hs hi hk
    have hG : GR σ := GR.fr (fun c _ => decide (114 ≤ c)) hG0 (fun c j q => hf c j (fun z => by simp [z.1] at q)) (by decide)
    have hS : SH σ L rv := hS0.fr (hf 21 2 (by omega)) (fun i => hf 22 i (by omega)) (fun i => hf 23 i (by omega))
    have hT2 : TMs σ TM L.length := TMs_fr hT (fun c j a1 a2 => hf c j (by omega)) s2
    have s1 := hS.1
    have e8 : σ 24 8 = (L.length : Int) := by rw [hf 24 8 (by omega)]; exact h8
    refine r_41_40 (ht := fun c => ?_) (hf := fun c => ?_)
    · refine r_41_105 (k := k σ hf hf2 (fun s hs2 => hs s (by omega)))
    · have hil : i < L.length := by omega
      have hx0 := List.getElem?_eq_getElem hil
      have hx1 := hS.2.2.1 i _ hx0
      have hx2 := hL _ (List.getElem_mem hil)
      have ed : L.getD i 0 = L[i] := by rw [List.getD_eq_getElem?_getD, hx0]; rfl
      have e25 := gr25 hG (j := i) (by omega)
      have e49 : σ 49 (i : Int) = B.2.2.2.getD i 0 := by rw [hf 49 _ (by omega)]; exact h49 i hil
      refine r_41_48 (hG := hG) (k := ?_)
      refine s_shget hG (fun c2 => ?_) (fun c2 => by exfalso; omega)
      dsimp only [Option.toList_some, List.cons_append, List.nil_append]
      rw [hx1]
      refine r_41_56 (ht := fun c3 => by exfalso; omega) (hf := fun c3 => ?_)
      refine r_41_61 (hG := hG) (h0 := by omega) (h1 := by omega) (k := ?_)
      rw [e25, e49]
      refine s_fst hG hT2 hil s2 (hl20 i) (hn i) ?_
      dsimp only [Option.toList_some, List.cons_append, List.nil_append]
      have g1 : ∀ v c j, ¬ c = 114 + L[i] → wrM σ (114 + L[i]) 9 v c j = σ c j := fun v c j q => wr_ne q
      have q1 : ∀ v, wrM σ (114 + L[i]) 9 v 24 1 = 25 := fun v => by rw [g1 v _ _ (by omega)]; exact g_24_1 hG
      have q5 : ∀ v, wrM σ (114 + L[i]) 9 v 24 5 = 49 := fun v => by rw [g1 v _ _ (by omega)]; exact g_24_5 hG
      have q25 : ∀ v, wrM σ (114 + L[i]) 9 v 25 (i : Int) = 26 + 5 * (i : Int) := fun v => by rw [g1 v _ _ (by omega)]; exact e25
      have q49 : ∀ v, wrM σ (114 + L[i]) 9 v 49 (i : Int) = B.2.2.2.getD i 0 := fun v => by rw [g1 v _ _ (by omega)]; exact e49
      refine r_41_77 (h0 := c3) (h1 := by rw [q1]; decide) (h2 := by rw [q1, show lnF 25 = 4 from by decide]; omega) (h3 := by rw [q5]; decide) (h4 := by rw [q5, show lnF 49 = 4 from by decide]; omega) (h5 := by rw [q1, q25]; omega) (k := ?_)
      rw [q1, q5, q25, q49]
      have hG2 : ∀ v, GR (wrM σ (114 + L[i]) 9 v) := fun v => GR.fr (fun c _ => decide (114 ≤ c)) hG (fun c j q => g1 v c j (fun z => by simp [z] at q; omega)) (by decide)
      have hT3 : ∀ v, TMs (wrM σ (114 + L[i]) 9 v) TM L.length := fun v => TMs_fr hT2 (fun c j a1 a2 => g1 v c j (by omega)) s2
      refine s_snd (hG2 _) (hT3 _) hil s2 (hl20 i) (hn i) ?_
      dsimp only [Option.toList_some, List.cons_append, List.nil_append]
      refine r_41_96 (h0 := c3) (k := ?_)
      rw [Zadd_nat (by omega)]
      refine ih (i + 1) _ _ (fun c j q => ?_) (fun h j h0 hn2 => ?_) (fun s hs2 => ?_) (by omega) (by omega)
      · rw [wr_j (by omega), wr_j (by omega)]; exact hf c j q
      · have hne : ¬ 114 + h = 114 + L[i] := fun z => hn2 (by rw [show h = L[i] by omega]; exact List.getElem_mem hil)
        rw [wr_ne hne, wr_ne hne]; exact hf2 h j h0 hn2
      · by_cases e : s = i
        · subst e
          rw [ed]
          exact ⟨by rw [wr_nej (by decide), wr_same]; rfl, by rw [wr_same]; rfl⟩
        · have hsl : s < L.length := by omega
          have hxs := List.getElem?_eq_getElem hsl
          have eds : L.getD s 0 = L[s] := by rw [List.getD_eq_getElem?_getD, hxs]; rfl
          have hne : ¬ 114 + L[s] = 114 + L[i] := fun z => e (hd s i L[s] hxs (by rw [hx0]; congr 1; omega))
          have q := hs s (by omega)
          rw [eds] at q ⊢
          rw [wr_ne hne, wr_ne hne, wr_ne hne, wr_ne hne]
          exact q
/-- what a plan leaves -/
def PLN (σ τ : Mem) (L : List Int) (keep : Bool) (B : Bst) (TM : Nat → List Tm) : Prop := (∀ c j, ¬ c = 13 → ¬ (c = 21 ∧ j = 2) → ¬ (22 ≤ c ∧ c ≤ 23) → ¬ (c = 24 ∧ 6 ≤ j ∧ j ≤ 11) → ¬ (26 ≤ c ∧ c ≤ 49) → ¬ (114 ≤ c ∧ (j = 9 ∨ j = 10)) → τ c j = σ c j) ∧ (∀ h j, 0 ≤ h → h ∉ L → τ (114 + h) j = σ (114 + h) j) ∧ (∀ s : Nat, s < L.length → τ (114 + L.getD s 0) 9 = (plT B TM s).1 ∧ τ (114 + L.getD s 0) 10 = (plT B TM s).2.1) ∧ τ 24 7 = 1 ∧ τ 24 8 = (L.length : Int) ∧ τ 24 9 = B.1 ∧ τ 24 10 = B.2.1 ∧ τ 24 11 = B.2.2.1 ∧ (τ 24 6 = 0 ∨ τ 24 6 = 1)
set_option maxHeartbeats 4000000 in
theorem s_plan {d : Nat} {n : Nat} {Q : Pst} {σ : Mem} {y b : Int} (hG : GR σ) (hD : DK σ) (hP : PV σ) (hW : WV σ) (hb : b = 0 ∨ b = 1) (hH : ∀ h, 0 ≤ h → h < σ 14 1 → HC σ (114 + h)) (h4 : (dlN (lvC σ y) (σ 14 1).toNat).length ≤ 4) (hv : (0 ≤ y ∧ y ≤ 999) → ∀ τ, GR τ → PLN σ τ (dlN (lvC σ y) (σ 14 1).toNat) (decide (b = 1)) (plB (decide (b = 1)) (cstC σ σ (dlN (lvC σ y) (σ 14 1).toNat) (TMc σ (dlN (lvC σ y) (σ 14 1).toNat))) (TMc σ (dlN (lvC σ y) (σ 14 1).toNat)) (dlN (lvC σ y) (σ 14 1).toNat).length) (TMc σ (dlN (lvC σ y) (σ 14 1).toNat)) → Q (some (0, (plB (decide (b = 1)) (cstC σ σ (dlN (lvC σ y) (σ 14 1).toNat) (TMc σ (dlN (lvC σ y) (σ 14 1).toNat))) (TMc σ (dlN (lvC σ y) (σ 14 1).toNat)) (dlN (lvC σ y) (σ 14 1).toNat).length).1)) τ n) (hn : ¬ (0 ≤ y ∧ y ≤ 999) → Q (some (0, -1)) σ n) : EVM (d + 10) 99 [(21, 0), (0, y), (0, b)] σ n Q := by
  show EV (d + 10) 99 0 [(21, 0), (0, y), (0, b)] [] σ n Q
  have hD1 := hD.1
  refine r_99_0 (k := ?_)
  refine s_isDay (fun c => ?_) (fun c => ?_)
  rotate_left
  · dsimp only [Option.toList_some, List.cons_append, List.nil_append]
    refine r_99_4 (ht := fun c => absurd rfl c) (hf := fun _ => ?_)
    exact r_99_7 (k := hn c)
  dsimp only [Option.toList_some, List.cons_append, List.nil_append]
  refine r_99_4 (ht := fun _ => ?_) (hf := fun c => absurd c (by decide))
  refine r_99_9 (hG := hG) (k := ?_)
  refine s_gather (d := d + 7) hG hD h4 (fun σ1 rv a1 a2 a3 => ?_)
  dsimp only [Option.toList_none, List.nil_append]
  generalize hLd : dlN (lvC σ y) (σ 14 1).toNat = L at *
  have hL : ∀ h ∈ L, 0 ≤ h ∧ h < σ 14 1 := fun h hh => by rw [← hLd] at hh; have := dlN_b _ h hh; omega
  have hdst : dst L := by rw [← hLd]; exact dlN_dst _
  have hG1 := hG.frS a1
  have lo1 : ∀ c i, (c ≤ 12 ∨ 114 ≤ c) → σ1 c i = σ c i := fun c i h => a1 c i (by omega) (by omega) (by omega)
  have eH1 : ∀ h, 0 ≤ h → σ1 (114 + h) = σ (114 + h) := fun h h0 => funext fun i => lo1 _ i (by omega)
  have hL1 : ∀ h ∈ L, 0 ≤ h ∧ HC σ1 (114 + h) := fun h hh => ⟨(hL h hh).1, by unfold HC; rw [eH1 h (hL h hh).1]; exact hH h (hL h hh).1 (hL h hh).2⟩
  have hW1 : WV σ1 := fun j h0 h1 => by rw [lo1 2 j (by omega)]; exact hW j h0 h1
  refine r_99_21 (hG := hG1) (k := ?_)
  refine s_prepare (d := d + 4) hG1 a2 (hP.fr lo1) hW1 hL1 (fun σ2 b1 b2 b3 b4 b5 => ?_)
  dsimp only [Option.toList_none, List.nil_append]
  have s2 := a2.2.1
  have eTM : TMc σ1 L = TMc σ L := by
    funext s
    unfold TMc
    by_cases hs : s < L.length
    · have h0 : 0 ≤ L.getD s 0 := by
        rw [List.getD_eq_getElem?_getD, List.getElem?_eq_getElem hs]
        exact (hL _ (List.getElem_mem hs)).1
      have ea : abC σ1 (114 + L.getD s 0) = abC σ (114 + L.getD s 0) := funext fun p => funext fun t => abC_fr (by omega) lo1 p t
      rw [ea, eH1 _ h0]
    · have h0 : L.getD s 0 = 0 := by rw [List.getD_eq_getElem?_getD, List.getElem?_eq_none (by omega)]; rfl
      have ea : abC σ1 (114 + L.getD s 0) = abC σ (114 + L.getD s 0) := funext fun p => funext fun t => abC_fr (by omega) lo1 p t
      rw [ea, h0, eH1 0 (by omega)]
  rw [eTM] at b4
  have hl20 : ∀ s, (TMc σ L s).length ≤ 20 := fun s => tmL_b (by omega)
  have hTv : TMv (TMc σ L) := TMv_of (fun s t ht => tmL_v t ht)
  refine r_99_40 (hG := b1) (k := ?_)
  -- layOut
  show EV (d + 9) 41 0 [(17, 24), (0, b), (9, 0), (9, 0)] [] σ2 n _
  refine r_41_0 (h0 := hb) (k := ?_)
  rw [b3, Zadd_eq (by omega) (by omega)]
  have w3 : ∀ c j, ¬ (c = 24 ∧ (j = 6 ∨ j = 7 ∨ j = 9 ∨ j = 10 ∨ j = 11)) → wrM (wrM (wrM (wrM (wrM σ2 24 6 b) 24 7 1) 24 9 ((L.length : Int) + 1)) 24 10 0) 24 11 0 c j = σ2 c j := fun c j q => by rw [wr_j (by omega), wr_j (by omega), wr_j (by omega), wr_j (by omega), wr_j (by omega)]
  have w6 : wrM (wrM (wrM (wrM (wrM σ2 24 6 b) 24 7 1) 24 9 ((L.length : Int) + 1)) 24 10 0) 24 11 0 24 6 = b := by rw [wr_nej (by decide), wr_nej (by decide), wr_nej (by decide), wr_nej (by decide), wr_same]
  have w7 : wrM (wrM (wrM (wrM (wrM σ2 24 6 b) 24 7 1) 24 9 ((L.length : Int) + 1)) 24 10 0) 24 11 0 24 7 = 1 := by rw [wr_nej (by decide), wr_nej (by decide), wr_nej (by decide), wr_same]
  have w9 : wrM (wrM (wrM (wrM (wrM σ2 24 6 b) 24 7 1) 24 9 ((L.length : Int) + 1)) 24 10 0) 24 11 0 24 9 = (L.length : Int) + 1 := by rw [wr_nej (by decide), wr_nej (by decide), wr_same]
  have w10 : wrM (wrM (wrM (wrM (wrM σ2 24 6 b) 24 7 1) 24 9 ((L.length : Int) + 1)) 24 10 0) 24 11 0 24 10 = 0 := by rw [wr_nej (by decide), wr_same]
  have w11 : wrM (wrM (wrM (wrM (wrM σ2 24 6 b) 24 7 1) 24 9 ((L.length : Int) + 1)) 24 10 0) 24 11 0 24 11 = 0 := wr_same
  have hG3 : GR (wrM (wrM (wrM (wrM (wrM σ2 24 6 b) 24 7 1) 24 9 ((L.length : Int) + 1)) 24 10 0) 24 11 0) := GR.wr (GR.wr (GR.wr (GR.wr (GR.wr b1 (by decide)) (by decide)) (by decide)) (by decide)) (by decide)
  generalize hσ3 : wrM (wrM (wrM (wrM (wrM σ2 24 6 b) 24 7 1) 24 9 ((L.length : Int) + 1)) 24 10 0) 24 11 0 = σ3 at *
  have hS2 : SH σ2 L rv := a2.fr (b2 21 2 (by decide) (by decide) (by decide)) (fun i => b2 22 i (by decide) (by decide) (by omega)) (fun i => b2 23 i (by decide) (by decide) (by omega))
  have hS3 : SH σ3 L rv := hS2.fr (w3 21 2 (by decide)) (fun i => w3 22 i (by omega)) (fun i => w3 23 i (by omega))
  have hT3 : TMs σ3 (TMc σ L) L.length := TMs_fr b4 (fun c j q1 q2 => w3 c j (by omega)) s2
  have h83 : σ3 24 8 = (L.length : Int) := by rw [w3 24 8 (by decide)]; exact b3
  have eH3 : ∀ h, 0 ≤ h → σ3 (114 + h) = σ (114 + h) := fun h h0 => funext fun i => by rw [w3 _ i (by omega), b2 _ i (by omega) (by omega) (by omega)]; exact lo1 _ i (by omega)
  have hX : CX σ1 σ3 L rv (TMc σ L) (decide (b = 1)) := ⟨hG3, hS3, ⟨a2, by
      rw [a3]
      exact isR_congr _ (fun h hh => by rw [eH1 h (hL h hh).1])⟩, hdst, fun h hh => (hL h hh).1, hW1, h83, hT3, fun m hm => by
      obtain ⟨t1, t2⟩ := b5 m hm
      exact ⟨by rw [w3 46 _ (by omega)]; exact t1, fun p hp => by rw [w3 47 _ (by omega)]; exact t2 p hp⟩, hl20, hTv, by rw [w6, decide_eq_true_iff]; omega⟩
  -- the worth of plans, by the memory at the start
  have eC : cstC σ1 σ3 L (TMc σ L) = cstC σ σ L (TMc σ L) := by
    have g0 : ∀ s, 0 ≤ L.getD s 0 := fun s => by
      rw [List.getD_eq_getElem?_getD]
      rcases Nat.lt_or_ge s L.length with q | q
      · rw [List.getElem?_eq_getElem q]; exact (hL _ (List.getElem_mem q)).1
      · rw [List.getElem?_eq_none q]; exact Int.le_refl 0
    have e1 : (fun s => σ3 (114 + L.getD s 0) 9) = (fun s => σ (114 + L.getD s 0) 9) := funext fun s => by rw [eH3 _ (g0 s)]
    have e2 : (fun s => σ3 (114 + L.getD s 0) 10) = (fun s => σ (114 + L.getD s 0) 10) := funext fun s => by rw [eH3 _ (g0 s)]
    have e22 : σ1 2 = σ 2 := funext fun j => lo1 2 j (by omega)
    have ew : wyC σ1 = wyC σ := by funext a b; unfold wyC; rw [e22]
    have eli : ∀ c p, liP (TMc σ L) L (fun h => σ1 (114 + h) 6) c p = liP (TMc σ L) L (fun h => σ (114 + h) 6) c p := fun c p => isR_congr _ (fun h hh => by rw [eH1 h (hL h (List.mem_filter.mp hh).1).1])
    have emem : ∀ c p, ∀ h ∈ liP (TMc σ L) L (fun h => σ (114 + h) 6) c p, 0 ≤ h := fun c p h hh => (hL h (List.mem_filter.mp (isR_mem.mp hh)).1).1
    unfold cstC cst
    rw [e1, e2]
    refine Prod.ext ?_ (Prod.ext rfl (Prod.ext rfl ?_))
    · funext c
      show allN _ 5 = allN _ 5
      congr 1
      funext p
      rw [eli]
      exact hoR_congr _ (fun x hx z hz => by unfold alC; rw [eH1 x (emem c p x hx), eH1 z (emem c p z hz), ew, lo1 1 1 (by omega)])
    · funext c
      show sumN _ 5 = sumN _ 5
      congr 1
      funext p
      rw [eli, ew]
      have eh : hmC σ1 p = hmC σ p := by unfold hmC; rw [lo1 3 2 (by omega), lo1 4 p (by omega)]
      show trT (wyC σ) (fun h => σ1 (114 + h) 2) (hmC σ1 p) _ = trT (wyC σ) (fun h => σ (114 + h) 2) (hmC σ p) _
      rw [eh]
      exact trT_tw _ (fun e he => by rw [eH1 e (emem c p e he)])
  have P0 : PS σ3 σ3 L.length [] ((L.length : Int) + 1, 0, 0, (List.range L.length).map (fun (s : Nat) => σ3 49 (s : Int))) := ⟨fun _ _ _ _ _ => rfl, ⟨w9, w10, w11⟩, fun s hs => by simp at hs, fun s hs => by
    show σ3 49 (s : Int) = ((List.range L.length).map (fun (s : Nat) => σ3 49 (s : Int))).getD s 0
    rw [List.getD_eq_getElem?_getD, List.getElem?_map, List.getElem?_range hs]; rfl⟩
  have S0 : STS (TMc σ L) [] 0 := ⟨by decide, fun p s hp hs => by rw [Nat.zero_testBit]; simp⟩
  refine s_search (n := n) hX L.length (d + 8) (by omega) _ [] σ3 _ 0 0 0 (by simp) P0 S0 rfl rfl (fun σ4 P4 => ?_)
  obtain ⟨pe1, pe2⟩ := plB_eq (keep := decide (b = 1)) (P := 5) (TM := TMc σ L) (L := L) (bg := fun h => σ1 (114 + h) 6) (al := alC σ1) (tr := fun p l => trT (wyC σ1) (fun h => σ1 (114 + h) 2) (hmC σ1 p) l) (s1 := fun s => σ3 (114 + L.getD s 0) 9) (s2 := fun s => σ3 (114 + L.getD s 0) 10) (B := ((L.length : Int) + 1, 0, 0, (List.range L.length).map (fun (s : Nat) => σ3 49 (s : Int)))) (by show (L.length : Int) < L.length + 1; omega)
  have P4 : PS σ3 σ4 L.length [] (plB (decide (b = 1)) (cstC σ1 σ3 L (TMc σ L)) (TMc σ L) L.length) := by
    have e : sF (decide (b = 1)) (cstC σ1 σ3 L (TMc σ L)) (fun s => (TMc σ L s).length) L.length [] ((L.length : Int) + 1, 0, 0, (List.range L.length).map (fun (s : Nat) => σ3 49 (s : Int))) = plB (decide (b = 1)) (cstC σ1 σ3 L (TMc σ L)) (TMc σ L) L.length := pe1
    rw [e] at P4; exact P4
  rw [eC] at P4
  dsimp only [Option.toList_none, List.nil_append]
  refine r_41_38 (k := ?_)
  have hG4 := P4.GR hG3
  have hS4 : SH σ4 L rv := hS3.fr (P4.1 21 2 (by decide) (by decide) (by decide)) (fun i => P4.1 22 i (by decide) (by decide) (by omega)) (fun i => P4.1 23 i (by decide) (by decide) (by omega))
  have hT4 : TMs σ4 (TMc σ L) L.length := TMs_fr hT3 (fun c j q1 q2 => P4.1 c j (by omega) (by omega) (by omega)) s2
  refine l_seats (d := d + 7) hG4 hS4 hdst (fun h hh => (hL h hh).1) (by rw [P4.1 24 8 (by decide) (by decide) (by decide)]; exact h83) hT4 hl20 P4.2.2.2 plB_n (fun τ g1 g2 g3 => ?_) (L.length + 1) 0 _ σ4 (fun _ _ _ => rfl) (fun _ _ _ _ => rfl) (fun s hs => by omega) (by omega) (by omega)
  dsimp only [Option.toList_none, List.nil_append]
  have hGτ : GR τ := GR.fr (fun c _ => decide (114 ≤ c)) hG4 (fun c j q => g1 c j (fun z => by simp [z.1] at q)) (by decide)
  refine r_99_48 (hG := hGτ) (k := ?_)
  rw [g1 24 9 (by decide), P4.2.1.1]
  refine hv c τ hGτ ⟨fun c j q1 q2 q3 q4 q5 q6 => ?_, fun h j h0 hnin => ?_, g3, ?_, ?_, ?_, ?_, ?_, ?_⟩
  · rw [g1 c j q6, P4.1 c j (by omega) (by omega) (by omega), w3 c j (by omega), b2 c j q1 (by omega) (by omega)]; exact a1 c j q2 (by omega) (by omega)
  · rw [g2 h j h0 hnin, P4.1 _ j (by omega) (by omega) (by omega), eH3 h h0]
  · rw [g1 24 7 (by decide), P4.1 24 7 (by decide) (by decide) (by decide)]; exact w7
  · rw [g1 24 8 (by decide), P4.1 24 8 (by decide) (by decide) (by decide)]; exact h83
  · rw [g1 24 9 (by decide)]; exact P4.2.1.1
  · rw [g1 24 10 (by decide)]; exact P4.2.1.2.1
  · rw [g1 24 11 (by decide)]; exact P4.2.1.2.2
  · rw [g1 24 6 (by decide), P4.1 24 6 (by decide) (by decide) (by decide), w6]; exact hb
