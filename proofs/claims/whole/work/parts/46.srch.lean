/-! the search for the best plan, purely -/
abbrev Bst : Type := Int × Int × Int × List Int
/-- what a choice is worth: does it hold; hearings without; changes; journeys -/
abbrev Cst : Type := (List Int → Bool) × (List Int → Int) × (List Int → Int) × (List Int → Int)
def btr (keep : Bool) (l g t : Int) (B : Bst) : Bool := decide (l < B.1 ∨ (l = B.1 ∧ ((keep = true ∧ g < B.2.1) ∨ ((keep = false ∨ g = B.2.1) ∧ t < B.2.2.1))))
def wgh (keep : Bool) (C : Cst) (B : Bst) (c : List Int) : Bst := if C.1 c = true ∧ btr keep (C.2.1 c) (C.2.2.1 c) (C.2.2.2 c) B = true then (C.2.1 c, C.2.2.1 c, C.2.2.2 c, c) else B
def itN (f : Nat → Bst → Bst) : Nat → Bst → Bst
  | 0, B => B
  | i + 1, B => f i (itN f i B)
theorem itN_s {f : Nat → Bst → Bst} {i : Nat} {B : Bst} : itN f (i + 1) B = f i (itN f i B) := rfl
def sF (keep : Bool) (C : Cst) (N : Nat → Nat) : Nat → List Int → Bst → Bst
  | 0, pf, B => wgh keep C B pf
  | r + 1, pf, B => itN (fun i B => sF keep C N r (pf ++ [(i : Int)]) B) (N pf.length + 1) B
theorem sF_0 {keep : Bool} {C : Cst} {N : Nat → Nat} {pf : List Int} {B : Bst} : sF keep C N 0 pf B = wgh keep C B pf := rfl
theorem sF_s {keep : Bool} {C : Cst} {N : Nat → Nat} {r : Nat} {pf : List Int} {B : Bst} : sF keep C N (r + 1) pf B = itN (fun i B => sF keep C N r (pf ++ [(i : Int)]) B) (N pf.length + 1) B := rfl
theorem wgh_w {keep : Bool} {C : Cst} {B : Bst} {c : List Int} : (wgh keep C B c).1 ≤ B.1 := by
  unfold wgh
  split
  · rename_i h
    have := of_decide_eq_true h.2
    show C.2.1 c ≤ B.1
    omega
  · exact Int.le_refl _
theorem wgh_ok {keep : Bool} {C : Cst} {B : Bst} {c : List Int} (h : C.1 c = true) : (wgh keep C B c).1 ≤ C.2.1 c := by
  unfold wgh
  split
  · exact Int.le_refl _
  · rename_i h2
    have h3 : ¬ btr keep (C.2.1 c) (C.2.2.1 c) (C.2.2.2 c) B = true := fun z => h2 ⟨h, z⟩
    have h4 : ¬ (C.2.1 c < B.1) := fun z => h3 (decide_eq_true (Or.inl z))
    omega
theorem itN_id {f : Nat → Bst → Bst} {B : Bst} (n : Nat) (h : ∀ i, i < n → f i B = B) : itN f n B = B := by
  induction n with
  | zero => rfl
  | succ n ih => rw [itN_s, ih (fun i hi => h i (by omega)), h n (by omega)]
theorem sF_id {keep : Bool} {C : Cst} {N : Nat → Nat} : ∀ (r : Nat) (pf : List Int) (B : Bst), (∀ tl : List Int, tl.length = r → wgh keep C B (pf ++ tl) = B) → sF keep C N r pf B = B := by
  intro r
  induction r with
  | zero => intro pf B h; have := h [] rfl; rw [List.append_nil] at this; exact this
  | succ r ih =>
    intro pf B h
    rw [sF_s]
    refine itN_id _ (fun i hi => ih _ _ (fun tl htl => ?_))
    rw [List.append_assoc]
    exact h ([(i : Int)] ++ tl) (by simp; omega)
theorem itN_w {f : Nat → Bst → Bst} (hf : ∀ i B, (f i B).1 ≤ B.1) (n : Nat) (B : Bst) : (itN f n B).1 ≤ B.1 := by
  induction n with
  | zero => exact Int.le_refl _
  | succ n ih => rw [itN_s]; have := hf n (itN f n B); omega
theorem sF_w {keep : Bool} {C : Cst} {N : Nat → Nat} : ∀ (r : Nat) (pf : List Int) (B : Bst), (sF keep C N r pf B).1 ≤ B.1 := by
  intro r
  induction r with
  | zero => intro pf B; exact wgh_w
  | succ r ih => intro pf B; rw [sF_s]; exact itN_w (fun i B => ih _ B) _ B
theorem itN_ok {f : Nat → Bst → Bst} {K : Int} (hf : ∀ i B, (f i B).1 ≤ B.1) (n j : Nat) (hj : j < n) (h : ∀ B, (f j B).1 ≤ K) (B : Bst) : (itN f n B).1 ≤ K := by
  induction n with
  | zero => omega
  | succ n ih =>
    rw [itN_s]
    by_cases q : j = n
    · rw [← q]; exact h _
    · have := ih (by omega)
      have := hf n (itN f n B)
      omega
theorem sF_ok {keep : Bool} {C : Cst} {N : Nat → Nat} : ∀ (r : Nat) (pf tl : List Int) (B : Bst), tl.length = r → (∀ s, s < r → 0 ≤ tl.getD s 0 ∧ tl.getD s 0 ≤ N (pf.length + s)) → C.1 (pf ++ tl) = true → (sF keep C N r pf B).1 ≤ C.2.1 (pf ++ tl) := by
  intro r
  induction r with
  | zero =>
    intro pf tl B hl _ hok
    have e : tl = [] := List.eq_nil_of_length_eq_zero hl
    subst e
    rw [List.append_nil] at hok ⊢
    exact wgh_ok hok
  | succ r ih =>
    intro pf tl B hl hv hok
    cases tl with
    | nil => simp at hl
    | cons x tl =>
      have h0 := hv 0 (by omega)
      have h0 : 0 ≤ x ∧ x ≤ N pf.length := h0
      rw [sF_s]
      refine itN_ok (fun i B => sF_w r _ B) _ x.toNat (by omega) (fun B2 => ?_) B
      rw [show (((x.toNat : Nat) : Int)) = x by omega]
      have q := ih (pf ++ [x]) tl B2 (by simpa using hl) (fun s hs => by
        have := hv (s + 1) (by omega)
        rw [List.length_append]
        have e : (x :: tl).getD (s + 1) 0 = tl.getD s 0 := by simp
        rw [e] at this
        rw [show pf.length + [x].length + s = pf.length + (s + 1) by simp; omega]
        exact this) (by rw [List.append_assoc]; exact hok)
      rw [List.append_assoc] at q
      exact q
def rlB (M : Int) (A B : Bst) : Prop := A = B ∨ (M < A.1 ∧ M < B.1)
theorem wgh_r {keep : Bool} {C : Cst} {A B : Bst} {c : List Int} {M : Int} (h : C.2.1 c ≤ M) (hr : rlB M A B) : rlB M (wgh keep C A c) (wgh keep C B c) := by
  rcases hr with rfl | ⟨h1, h2⟩
  · exact Or.inl rfl
  · unfold wgh
    by_cases hok : C.1 c = true
    · have b1 : btr keep (C.2.1 c) (C.2.2.1 c) (C.2.2.2 c) A = true := decide_eq_true (Or.inl (by omega))
      have b2 : btr keep (C.2.1 c) (C.2.2.1 c) (C.2.2.2 c) B = true := decide_eq_true (Or.inl (by omega))
      rw [if_pos ⟨hok, b1⟩, if_pos ⟨hok, b2⟩]
      exact Or.inl rfl
    · rw [if_neg (fun z => hok z.1), if_neg (fun z => hok z.1)]
      exact Or.inr ⟨h1, h2⟩
theorem sF_r {keep : Bool} {C : Cst} {N : Nat → Nat} {M : Int} : ∀ (r : Nat) (pf : List Int) (A B : Bst), (∀ tl : List Int, tl.length = r → C.2.1 (pf ++ tl) ≤ M) → rlB M A B → rlB M (sF keep C N r pf A) (sF keep C N r pf B) := by
  intro r
  induction r with
  | zero => intro pf A B h hr; have := h [] rfl; rw [List.append_nil] at this; exact wgh_r this hr
  | succ r ih =>
    intro pf A B h hr
    rw [sF_s, sF_s]
    generalize N pf.length + 1 = n
    induction n with
    | zero => exact hr
    | succ n ih2 =>
      rw [itN_s, itN_s]
      refine ih _ _ _ (fun tl htl => ?_) ih2
      rw [List.append_assoc]
      exact h ([(n : Int)] ++ tl) (by simp; omega)
/-- two searches that begin with what any plan betters end alike -/
theorem sF_same {keep : Bool} {C : Cst} {N : Nat → Nat} {M : Int} {r : Nat} {A B : Bst} (hM : ∀ tl : List Int, tl.length = r → C.2.1 tl ≤ M) (hA : M < A.1) (hB : M < B.1) (tl : List Int) (hl : tl.length = r) (hv : ∀ s, s < r → 0 ≤ tl.getD s 0 ∧ tl.getD s 0 ≤ N s) (hok : C.1 tl = true) : sF keep C N r [] A = sF keep C N r [] B ∧ (sF keep C N r [] A).1 ≤ M := by
  have h1 := sF_r (keep := keep) (C := C) (N := N) r [] A B hM (Or.inr ⟨hA, hB⟩)
  have h2 := sF_ok (keep := keep) (C := C) (N := N) r [] tl A hl (fun s hs => by have := hv s hs; simpa using this) hok
  have h3 := hM tl hl
  have h2 : (sF keep C N r [] A).1 ≤ C.2.1 tl := h2
  refine ⟨?_, by omega⟩
  rcases h1 with q | q
  · exact q
  · omega
/-- sums over a choice -/
def smL (g : Nat → Int → Int) (c : List Int) : Int := sumN (fun s => g s.toNat (c.getD s.toNat 0)) c.length
theorem smL_app {g : Nat → Int → Int} {pf : List Int} {i : Int} : smL g (pf ++ [i]) = smL g pf + g pf.length i := by
  unfold smL
  rw [List.length_append]
  show sumN _ (pf.length + 1) = _
  rw [sumN_s]
  have e1 : sumN (fun s => g s.toNat ((pf ++ [i]).getD s.toNat 0)) pf.length = sumN (fun s => g s.toNat (pf.getD s.toNat 0)) pf.length := sumN_congr (fun s hs => by
    show g ((s : Int).toNat) ((pf ++ [i]).getD ((s : Int).toNat) 0) = g ((s : Int).toNat) (pf.getD ((s : Int).toNat) 0)
    rw [Int.toNat_natCast, List.getD_eq_getElem?_getD, List.getD_eq_getElem?_getD, List.getElem?_append_left hs])
  rw [e1]
  congr 1
  show g ((pf.length : Int).toNat) ((pf ++ [i]).getD ((pf.length : Int).toNat) 0) = _
  rw [Int.toNat_natCast, List.getD_eq_getElem?_getD, List.getElem?_append_right (Nat.le_refl _)]
  simp
theorem smL_mono {g : Nat → Int → Int} (hg : ∀ s x, 0 ≤ g s x) : ∀ (tl pf : List Int), smL g pf ≤ smL g (pf ++ tl) := by
  intro tl
  induction tl with
  | nil => intro pf; rw [List.append_nil]; exact Int.le_refl _
  | cons x tl ih =>
    intro pf
    have h1 := ih (pf ++ [x])
    rw [smL_app, List.append_assoc] at h1
    have h2 := hg pf.length x
    have h1 : smL g pf + g pf.length x ≤ smL g (pf ++ x :: tl) := h1
    omega
theorem smL_b {g : Nat → Int → Int} {K : Int} (hg : ∀ s x, 0 ≤ g s x ∧ g s x ≤ K) (c : List Int) : 0 ≤ smL g c ∧ smL g c ≤ K * c.length := by
  unfold smL
  generalize c.length = n
  induction n with
  | zero => exact ⟨Int.le_refl 0, by simp [sumN]⟩
  | succ n ih =>
    rw [sumN_s]
    have q := hg ((n : Int).toNat) (c.getD ((n : Int).toNat) 0)
    rw [show K * ((n + 1 : Nat) : Int) = K * n + K by rw [show ((n + 1 : Nat) : Int) = (n : Int) + 1 by omega, Int.mul_add, Int.mul_one]]
    constructor
    · show 0 ≤ sumN _ n + g _ _; omega
    · show sumN _ n + g _ _ ≤ _; omega
/-- where a hearing stands in a list -/
def ix : List Int → Int → Nat
  | [], _ => 0
  | y :: l, x => if y = x then 0 else ix l x + 1
def dst (L : List Int) : Prop := ∀ (i j : Nat) x, L[i]? = some x → L[j]? = some x → i = j
theorem ix_at {x : Int} : ∀ (L : List Int), x ∈ L → L[ix L x]? = some x := by
  intro L
  induction L with
  | nil => intro h; exact absurd h List.not_mem_nil
  | cons y L ih =>
    intro h
    unfold ix
    split
    · rename_i e; rw [e]; rfl
    · rename_i e
      have : x ∈ L := by
        rcases List.mem_cons.mp h with q | q
        · exact absurd q.symm e
        · exact q
      rw [List.getElem?_cons_succ]
      exact ih this
theorem ix_of {L : List Int} (h : dst L) {s : Nat} {x : Int} (hx : L[s]? = some x) : ix L x = s := h _ _ x (ix_at L (List.mem_of_getElem? hx)) hx
theorem dlN_dst {p : Int → Bool} (k : Nat) : dst (dlN p k) := by
  induction k with
  | zero => intro i j x h; simp [dlN] at h
  | succ k ih =>
    intro i j x hi hj
    rw [dlN_s] at hi hj
    by_cases hp : p (k : Int) = true
    · rw [if_pos hp] at hi hj
      have last : ∀ i : Nat, ¬ i < (dlN p k).length → (dlN p k ++ [(k : Int)])[i]? = some x → i = (dlN p k).length ∧ x = (k : Int) := fun i hn he => by
        rw [List.getElem?_append_right (by omega)] at he
        have q2 : i - (dlN p k).length = 0 := by
          cases hq : i - (dlN p k).length with
          | zero => rfl
          | succ m => rw [hq] at he; simp at he
        rw [q2] at he
        exact ⟨by omega, by simpa using he.symm⟩
      by_cases h1 : i < (dlN p k).length
      · by_cases h2 : j < (dlN p k).length
        · rw [List.getElem?_append_left h1] at hi
          rw [List.getElem?_append_left h2] at hj
          exact ih i j x hi hj
        · rw [List.getElem?_append_left h1] at hi
          have q := last j h2 hj
          have b := dlN_b k x (List.mem_of_getElem? hi)
          omega
      · by_cases h2 : j < (dlN p k).length
        · rw [List.getElem?_append_left h2] at hj
          have q := last i h1 hi
          have b := dlN_b k x (List.mem_of_getElem? hj)
          omega
        · have q := last i h1 hi
          have q2 := last j h2 hj
          omega
    · rw [if_neg hp, List.append_nil] at hi hj
      exact ih i j x hi hj
/-- a choice's team in a slot; who sits in a hearing by it; the hearings of a person, by their begins -/
def tmA (TM : Nat → List Tm) (c : List Int) (s : Nat) : Tm := (TM s).getD (c.getD s 0).toNat (-1, -1, -1)
def sitA (t : Tm) (p : Int) : Bool := decide (t.1 = p ∨ t.2.1 = p)
def sH (TM : Nat → List Tm) (L : List Int) (c : List Int) (p x : Int) : Bool := sitA (tmA TM c (ix L x)) p
def liP (TM : Nat → List Tm) (L : List Int) (bg : Int → Int) (c : List Int) (p : Int) : List Int := isR bg (L.filter (sH TM L c p))
def allN (f : Nat → Bool) : Nat → Bool
  | 0 => true
  | k + 1 => allN f k && f k
theorem allN_iff {f : Nat → Bool} {k : Nat} : allN f k = true ↔ ∀ i, i < k → f i = true := by
  induction k with
  | zero => exact ⟨fun _ i hi => by omega, fun _ => rfl⟩
  | succ k ih =>
    unfold allN
    rw [Bool.and_eq_true, ih]
    constructor
    · rintro ⟨h1, h2⟩ i hi
      by_cases q : i = k
      · rw [q]; exact h2
      · exact h1 i (by omega)
    · intro h
      exact ⟨fun i hi => h i (by omega), h k (by omega)⟩
def lev (x : Int) (t : Tm) : Int := if ¬ x = -1 ∧ ¬ x = t.1 ∧ ¬ x = t.2.1 then 1 else 0
/-- the worth of a choice: persons, teams, hearings, begins, 'allows', journeys, old seats -/
def cst (P : Nat) (TM : Nat → List Tm) (L : List Int) (bg : Int → Int) (al : Int → Int → Bool) (tr : Int → List Int → Int) (s1 s2 : Nat → Int) : Cst :=
  (fun c => allN (fun p => hoR al (liP TM L bg c p)) P,
   smL (fun s x => if x = (TM s).length then 1 else 0),
   smL (fun s x => lev (s1 s) ((TM s).getD x.toNat (-1, -1, -1)) + lev (s2 s) ((TM s).getD x.toNat (-1, -1, -1))),
   fun c => sumN (fun p => tr p (liP TM L bg c p)) P)
theorem lev_b {x : Int} {t : Tm} : 0 ≤ lev x t ∧ lev x t ≤ 1 := by unfold lev; split <;> omega
theorem cst_wo {P : Nat} {TM : Nat → List Tm} {L : List Int} {bg : Int → Int} {al : Int → Int → Bool} {tr : Int → List Int → Int} {s1 s2 : Nat → Int} (c : List Int) : 0 ≤ (cst P TM L bg al tr s1 s2).2.1 c ∧ (cst P TM L bg al tr s1 s2).2.1 c ≤ c.length := by
  have := smL_b (g := fun s x => if x = ((TM s).length : Int) then 1 else 0) (K := 1) (fun s x => by (try dsimp only); split <;> omega) c
  rw [Int.one_mul] at this
  exact this
theorem cst_cg {P : Nat} {TM : Nat → List Tm} {L : List Int} {bg : Int → Int} {al : Int → Int → Bool} {tr : Int → List Int → Int} {s1 s2 : Nat → Int} (c : List Int) : 0 ≤ (cst P TM L bg al tr s1 s2).2.2.1 c ∧ (cst P TM L bg al tr s1 s2).2.2.1 c ≤ 2 * c.length := smL_b (g := fun s x => lev (s1 s) ((TM s).getD x.toNat (-1, -1, -1)) + lev (s2 s) ((TM s).getD x.toNat (-1, -1, -1))) (K := 2) (fun s x => by have h1 := @lev_b (s1 s) ((TM s).getD x.toNat (-1, -1, -1)); have h2 := @lev_b (s2 s) ((TM s).getD x.toNat (-1, -1, -1)); (try dsimp only); omega) c
/-- a part of a choice that is past the best already needs no search -/
theorem past {keep : Bool} {P : Nat} {TM : Nat → List Tm} {L : List Int} {bg : Int → Int} {al : Int → Int → Bool} {tr : Int → List Int → Int} {s1 s2 : Nat → Int} {N : Nat → Nat} {pf : List Int} {B : Bst} (r : Nat) (h : B.1 < (cst P TM L bg al tr s1 s2).2.1 pf ∨ (keep = true ∧ (cst P TM L bg al tr s1 s2).2.1 pf = B.1 ∧ B.2.1 < (cst P TM L bg al tr s1 s2).2.2.1 pf)) : sF keep (cst P TM L bg al tr s1 s2) N r pf B = B := by
  refine sF_id r pf B (fun tl htl => ?_)
  have m1 : (cst P TM L bg al tr s1 s2).2.1 pf ≤ (cst P TM L bg al tr s1 s2).2.1 (pf ++ tl) := smL_mono (g := fun s x => if x = ((TM s).length : Int) then 1 else 0) (fun s x => by (try dsimp only); split <;> omega) tl pf
  have m2 : (cst P TM L bg al tr s1 s2).2.2.1 pf ≤ (cst P TM L bg al tr s1 s2).2.2.1 (pf ++ tl) := smL_mono (g := fun s x => lev (s1 s) ((TM s).getD x.toNat (-1, -1, -1)) + lev (s2 s) ((TM s).getD x.toNat (-1, -1, -1))) (fun s x => by have h1 := @lev_b (s1 s) ((TM s).getD x.toNat (-1, -1, -1)); have h2 := @lev_b (s2 s) ((TM s).getD x.toNat (-1, -1, -1)); (try dsimp only); omega) tl pf
  unfold wgh
  refine if_neg (fun z => ?_)
  have z2 := of_decide_eq_true z.2
  rcases h with h | ⟨h1, h2, h3⟩
  · omega
  · rcases z2 with z2 | ⟨z3, z4 | ⟨z5 | z5, z6⟩⟩
    · omega
    · omega
    · rw [h1] at z5; cases z5
    · omega
