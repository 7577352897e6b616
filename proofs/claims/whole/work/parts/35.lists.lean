/-! bits; sorted lists; rows in memory -/
set_option maxHeartbeats 2000000 in
theorem z_bv (a : Nat) : (Int32.ofInt (a : Int)).toBitVec = BitVec.ofNat 32 a := by
  show BitVec.ofInt 32 (a : Int) = BitVec.ofNat 32 a
  exact BitVec.ofInt_natCast 32 a
theorem z_int {x : Int32} {a : Nat} (h : x.toBitVec = BitVec.ofNat 32 a) (ha : a < 2147483648) : x.toInt = (a : Int) := by
  have e : x = Int32.ofInt (a : Int) := Int32.toBitVec_inj.mp (by rw [h, z_bv])
  rw [e]; exact t_of (by omega) (by omega)
theorem Zor_nat {a b : Nat} (ha : a < 2147483648) (hb : b < 2147483648) : Zor (a : Int) (b : Int) = ((a ||| b : Nat) : Int) := by
  refine z_int ?_ (Nat.or_lt_two_pow (n := 31) ha hb)
  rw [Int32.toBitVec_or, z_bv, z_bv]
  apply BitVec.eq_of_getLsbD_eq
  intro i hi
  simp [hi]
theorem Zand_nat {a b : Nat} (ha : a < 2147483648) : Zand (a : Int) (b : Int) = ((a &&& b : Nat) : Int) := by
  refine z_int ?_ (Nat.lt_of_le_of_lt Nat.and_le_left ha)
  rw [Int32.toBitVec_and, z_bv, z_bv]
  apply BitVec.eq_of_getLsbD_eq
  intro i hi
  simp [hi]
theorem Zshl_1' : ∀ k : Fin 31, Zshl 1 ((k.val : Nat) : Int) = ((2 ^ k.val : Nat) : Int) := by decide +kernel
theorem Zshl_1 {k : Nat} (h : k < 31) : Zshl 1 (k : Int) = ((2 ^ k : Nat) : Int) := Zshl_1' ⟨k, h⟩
theorem z_sm : ∀ k : Fin 32, ((Int32.ofInt ((k.val : Nat) : Int) &&& 31).toBitVec.smod 32).toNat = k.val := by decide +kernel
theorem Zshr_nat {a k : Nat} (ha : a < 2147483648) (hk : k < 32) : Zshr (a : Int) (k : Int) = ((a >>> k : Nat) : Int) := by
  refine z_int ?_ (Nat.lt_of_le_of_lt (by rw [Nat.shiftRight_eq_div_pow]; exact Nat.div_le_self _ _) ha)
  rw [Int32.toBitVec_shiftRight]
  show ((Int32.ofInt (a : Int)).toBitVec.sshiftRight ((Int32.ofInt ((k : Nat) : Int) &&& 31).toBitVec.smod 32).toNat) = _
  rw [z_sm ⟨k, hk⟩, z_bv]
  apply BitVec.eq_of_getLsbD_eq
  intro i hi
  have t31 : ∀ j, 31 ≤ j → a.testBit j = false := fun j hj => Nat.testBit_lt_two_pow (Nat.lt_of_lt_of_le ha (Nat.pow_le_pow_right (by decide) hj : 2 ^ 31 ≤ 2 ^ j))
  rw [BitVec.getLsbD_sshiftRight, BitVec.msb_eq_getLsbD_last, BitVec.getLsbD_ofNat, BitVec.getLsbD_ofNat, BitVec.getLsbD_ofNat, Nat.testBit_shiftRight]
  have e1 : decide (32 ≤ i) = false := decide_eq_false (by omega)
  have e2 : decide (i < 32) = true := decide_eq_true hi
  rw [e1, e2, t31 (32 - 1) (by decide)]
  by_cases h : k + i < 32
  · simp [h]
  · simp [h, t31 (k + i) (by omega)]
theorem Zbit {a k : Nat} (ha : a < 2147483648) (hk : k < 32) : Zand (Zshr (a : Int) (k : Int)) 1 = 1 ↔ a.testBit k = true := by
  rw [Zshr_nat ha hk, show (1 : Int) = ((1 : Nat) : Int) from rfl, Zand_nat (Nat.lt_of_le_of_lt (by rw [Nat.shiftRight_eq_div_pow]; exact Nat.div_le_self _ _) ha), Nat.and_one_is_mod, Nat.shiftRight_eq_div_pow, Nat.testBit_eq_decide_div_mod_eq]
  rw [decide_eq_true_iff]
  omega
/-- lists of the numbers below that are told -/
def dlN (p : Int → Bool) : Nat → List Int
  | 0 => []
  | k + 1 => dlN p k ++ (if p k = true then [(k : Int)] else [])
theorem dlN_s {p : Int → Bool} {k : Nat} : dlN p (k + 1) = dlN p k ++ (if p k = true then [(k : Int)] else []) := rfl
theorem dlN_b {p : Int → Bool} (k : Nat) : ∀ h ∈ dlN p k, 0 ≤ h ∧ h < (k : Int) ∧ p h = true := by
  induction k with
  | zero => intro h hh; exact absurd hh (List.not_mem_nil)
  | succ k ih =>
    intro h hh
    rw [dlN_s] at hh
    rcases List.mem_append.mp hh with q | q
    · have := ih h q; exact ⟨this.1, by omega, this.2.2⟩
    · split at q
      · rename_i hp
        have e : h = (k : Int) := by simpa using q
        subst e
        exact ⟨by omega, by omega, hp⟩
      · exact absurd q (List.not_mem_nil)
theorem dlN_len {p : Int → Bool} (k : Nat) : ((dlN p k).length : Int) = sumN (fun i => if p i = true then 1 else 0) k := by
  induction k with
  | zero => rfl
  | succ k ih =>
    rw [dlN_s, List.length_append, sumN_s, ← ih]
    split <;> simp
theorem dlN_mono {p : Int → Bool} {j k : Nat} (h : j ≤ k) : (dlN p j).length ≤ (dlN p k).length := by
  induction k with
  | zero => rw [show j = 0 by omega]; exact Nat.le_refl _
  | succ k ih =>
    rcases Nat.lt_or_ge k j with q | q
    · rw [show j = k + 1 by omega]; exact Nat.le_refl _
    · have := ih q
      rw [dlN_s, List.length_append]
      omega
theorem dlN_congr {p q : Int → Bool} (k : Nat) (h : ∀ i : Nat, i < k → p i = q i) : dlN p k = dlN q k := by
  induction k with
  | zero => rfl
  | succ k ih => rw [dlN_s, dlN_s, ih (fun i hi => h i (by omega)), h k (by omega)]
theorem dlN_filter {p q : Int → Bool} (k : Nat) : (dlN p k).filter q = dlN (fun i => p i && q i) k := by
  induction k with
  | zero => rfl
  | succ k ih =>
    rw [dlN_s, dlN_s, List.filter_append, ih]
    congr 1
    by_cases h1 : p (k : Int) = true
    · by_cases h2 : q (k : Int) = true
      · simp [h1, h2]
      · simp [h1, h2]
    · simp [h1]
/-- insertion into a row whose last element comes first -/
def insR (f : Int → Int) (b x : Int) : List Int → List Int
  | [] => [x]
  | e :: l => if b < f e then e :: insR f b x l else x :: e :: l
theorem insR_c {f : Int → Int} {b x e : Int} {l : List Int} : insR f b x (e :: l) = if b < f e then e :: insR f b x l else x :: e :: l := rfl
theorem insR_len {f : Int → Int} {b x : Int} (l : List Int) : (insR f b x l).length = l.length + 1 := by
  induction l with
  | nil => rfl
  | cons e l ih => rw [insR_c]; split <;> simp [ih]
theorem insR_mem {f : Int → Int} {b x y : Int} (l : List Int) : y ∈ insR f b x l ↔ y = x ∨ y ∈ l := by
  induction l with
  | nil => simp [insR]
  | cons e l ih =>
    rw [insR_c]
    split
    · simp only [List.mem_cons, ih]
      constructor
      · rintro (h | h | h) <;> simp [h]
      · rintro (h | h | h) <;> simp [h]
    · simp only [List.mem_cons]
theorem insR_map {f f' g : Int → Int} {b x : Int} (l : List Int) (h : ∀ e ∈ l, f e = f' (g e)) : (insR f b x l).map g = insR f' b (g x) (l.map g) := by
  induction l with
  | nil => rfl
  | cons e l ih =>
    rw [insR_c, List.map_cons, insR_c, h e List.mem_cons_self]
    split
    · rw [List.map_cons, ih (fun e he => h e (List.mem_cons_of_mem _ he))]
    · rfl
theorem insR_congr {f f' : Int → Int} {b x : Int} (l : List Int) (h : ∀ e ∈ l, f e = f' e) : insR f b x l = insR f' b x l := by
  have := insR_map (f := f) (f' := f') (g := id) (b := b) (x := x) l h
  simpa using this
def isR (f : Int → Int) (L : List Int) : List Int := L.foldl (fun a h => insR f (f h) h a) []
theorem isR_snoc {f : Int → Int} {L : List Int} {h : Int} : isR f (L ++ [h]) = insR f (f h) h (isR f L) := by
  unfold isR; rw [List.foldl_append]; rfl
def srR (f : Int → Int) : List Int → Prop
  | [] => True
  | e :: l => (∀ y ∈ l, f y ≤ f e) ∧ srR f l
theorem srR_ins {f : Int → Int} {x : Int} (l : List Int) (h : srR f l) : srR f (insR f (f x) x l) := by
  induction l with
  | nil => exact ⟨fun y hy => absurd hy List.not_mem_nil, trivial⟩
  | cons e l ih =>
    rw [insR_c]
    split
    · rename_i q
      refine ⟨fun y hy => ?_, ih h.2⟩
      rcases (insR_mem l).mp hy with rfl | hy
      · omega
      · exact h.1 y hy
    · rename_i q
      refine ⟨fun y hy => ?_, h⟩
      rcases List.mem_cons.mp hy with rfl | hy
      · omega
      · have := h.1 y hy; omega
theorem insR_filter {f : Int → Int} {x : Int} {P : Int → Bool} (l : List Int) (h : srR f l) : (insR f (f x) x l).filter P = if P x = true then insR f (f x) x (l.filter P) else l.filter P := by
  induction l with
  | nil =>
    show [x].filter P = _
    by_cases q : P x = true
    · simp [q, insR]
    · simp [q]
  | cons e l ih =>
    rw [insR_c]
    by_cases c : f x < f e
    · rw [if_pos c, List.filter_cons, ih h.2, List.filter_cons]
      by_cases q : P x = true
      · rw [if_pos q, if_pos q]
        by_cases q2 : P e = true
        · rw [if_pos q2, if_pos q2, insR_c, if_pos c]
        · rw [if_neg q2, if_neg q2]
      · rw [if_neg q, if_neg q]
    · rw [if_neg c, List.filter_cons]
      by_cases q : P x = true
      · rw [if_pos q, if_pos q]
        cases hm : (e :: l).filter P with
        | nil => rfl
        | cons y m =>
          rw [insR_c, if_neg]
          have hy : y ∈ e :: l := (List.mem_filter.mp (by rw [hm]; exact List.mem_cons_self : y ∈ (e :: l).filter P)).1
          rcases List.mem_cons.mp hy with rfl | hy
          · exact c
          · have := h.1 y hy; omega
      · rw [if_neg q, if_neg q]
theorem isR_filter' {f : Int → Int} {P : Int → Bool} (L : List Int) : ∀ acc, srR f acc → (L.foldl (fun a h => insR f (f h) h a) acc).filter P = (L.filter P).foldl (fun a h => insR f (f h) h a) (acc.filter P) := by
  induction L with
  | nil => intro acc _; rfl
  | cons h L ih =>
    intro acc ha
    rw [List.foldl_cons, ih _ (srR_ins acc ha), insR_filter acc ha, List.filter_cons]
    by_cases q : P h = true
    · rw [if_pos q, if_pos q, List.foldl_cons]
    · rw [if_neg q, if_neg q]
theorem isR_filter {f : Int → Int} {P : Int → Bool} (L : List Int) : (isR f L).filter P = isR f (L.filter P) := isR_filter' L [] trivial
theorem isR_sr' {f : Int → Int} (L : List Int) : ∀ acc, srR f acc → srR f (L.foldl (fun a h => insR f (f h) h a) acc) := by
  induction L with
  | nil => intro acc h; exact h
  | cons h L ih => intro acc ha; rw [List.foldl_cons]; exact ih _ (srR_ins acc ha)
theorem isR_sr {f : Int → Int} (L : List Int) : srR f (isR f L) := isR_sr' L [] trivial
theorem isR_mem' {f : Int → Int} (L : List Int) : ∀ acc y, y ∈ L.foldl (fun a h => insR f (f h) h a) acc ↔ y ∈ L ∨ y ∈ acc := by
  induction L with
  | nil => intro acc y; simp
  | cons h L ih =>
    intro acc y
    rw [List.foldl_cons, ih, insR_mem, List.mem_cons]
    constructor
    · rintro (q | q | q) <;> simp [q]
    · rintro ((q | q) | q) <;> simp [q]
theorem isR_mem {f : Int → Int} {L : List Int} {y : Int} : y ∈ isR f L ↔ y ∈ L := by
  unfold isR; rw [isR_mem']; simp
theorem isR_congr' {f g : Int → Int} (L : List Int) : ∀ acc, (∀ h ∈ acc, f h = g h) → (∀ h ∈ L, f h = g h) → L.foldl (fun a h => insR f (f h) h a) acc = L.foldl (fun a h => insR g (g h) h a) acc := by
  induction L with
  | nil => intro acc _ _; rfl
  | cons h L ih =>
    intro acc ha hL
    rw [List.foldl_cons, List.foldl_cons, insR_congr (f := f) (f' := g) acc ha, hL h List.mem_cons_self]
    refine ih _ (fun y hy => ?_) (fun y hy => hL y (List.mem_cons_of_mem _ hy))
    rcases (insR_mem acc).mp hy with rfl | hy
    · exact hL _ List.mem_cons_self
    · exact ha y hy
theorem isR_congr {f g : Int → Int} (L : List Int) (h : ∀ y ∈ L, f y = g y) : isR f L = isR g L := isR_congr' L [] (fun y hy => absurd hy List.not_mem_nil) h
theorem isR_len' {f : Int → Int} (L : List Int) : ∀ acc, (L.foldl (fun a h => insR f (f h) h a) acc).length = L.length + acc.length := by
  induction L with
  | nil => intro acc; simp
  | cons h L ih => intro acc; rw [List.foldl_cons, ih, insR_len]; simp; omega
theorem isR_len {f : Int → Int} {L : List Int} : (isR f L).length = L.length := by
  unfold isR; rw [isR_len']; rfl
/-- a row in memory, its last element first in the list -/
def RVs (σ : Mem) (a : Int) : List Int → Prop
  | [] => True
  | e :: l => σ a (l.length : Int) = e ∧ RVs σ a l
theorem RVs_fr {σ τ : Mem} {a : Int} (l : List Int) (h : RVs σ a l) (hf : ∀ j, 0 ≤ j → j < (l.length : Int) → τ a j = σ a j) : RVs τ a l := by
  induction l with
  | nil => trivial
  | cons e l ih =>
    have e1 : ((e :: l).length : Int) = (l.length : Int) + 1 := by simp
    exact ⟨by rw [hf _ (by omega) (by omega)]; exact h.1, ih h.2 (fun j h0 h1 => hf j h0 (by omega))⟩
theorem RVs_push {σ : Mem} {a v : Int} {l : List Int} (h : RVs σ a l) : RVs (wrM σ a (l.length : Int) v) a (v :: l) := ⟨wr_same, RVs_fr l h (fun j h0 h1 => wr_nej (by omega))⟩
theorem RVs_upd {σ : Mem} {a v w : Int} {l : List Int} (p : List Int) (h : RVs σ a (p ++ w :: l)) : RVs (wrM σ a (l.length : Int) v) a (p ++ v :: l) := by
  induction p with
  | nil => exact ⟨wr_same, RVs_fr l h.2 (fun j h0 h1 => wr_nej (by omega))⟩
  | cons e p ih =>
    have e1 : (p ++ v :: l).length = (p ++ w :: l).length := by simp
    have e2 : ((p ++ w :: l).length : Int) = p.length + 1 + l.length := by simp; omega
    refine ⟨?_, ih h.2⟩
    show wrM σ a (l.length : Int) v a ((p ++ v :: l).length : Int) = e
    rw [e1, wr_nej (by omega)]
    exact h.1
theorem RVs_aux {σ : Mem} {a : Int} (h : List Int) : ∀ l, RVs σ a (h.reverseAux l) → RVs σ a l := by
  induction h with
  | nil => intro l q; exact q
  | cons e h ih => intro l q; exact (ih (e :: l) q).2
theorem RVs_ext {σ : Mem} {a : Int} : ∀ (l m : List Int), l.length = m.length → RVs σ a l → RVs σ a m → l = m := by
  intro l
  induction l with
  | nil => intro m h _ _; cases m with
    | nil => rfl
    | cons _ _ => simp at h
  | cons e l ih =>
    intro m h h1 h2
    cases m with
    | nil => simp at h
    | cons y m =>
      have hl : l.length = m.length := by simpa using h
      rw [ih m hl h1.2 h2.2]
      have : e = y := by rw [← h1.1, ← h2.1, hl]
      rw [this]
/-- journeys and chains of a row -/
def trR (w : Int → Int → Int) (tw : Int → Int) (home : Int) : List Int → Int × Int
  | [] => (home, 0)
  | e :: l => (tw e, (trR w tw home l).2 + w (trR w tw home l).1 (tw e))
def trT (w : Int → Int → Int) (tw : Int → Int) (home : Int) (l : List Int) : Int := (trR w tw home l).2 + w (trR w tw home l).1 home
def hoR (ok : Int → Int → Bool) : List Int → Bool
  | [] => true
  | b :: l => (match l with
    | [] => true
    | a :: _ => ok a b) && hoR ok l
theorem trR_c {w : Int → Int → Int} {tw : Int → Int} {home e : Int} {l : List Int} : trR w tw home (e :: l) = (tw e, (trR w tw home l).2 + w (trR w tw home l).1 (tw e)) := rfl
theorem trR_b {w : Int → Int → Int} {tw : Int → Int} {home : Int} (hw : ∀ a b, 0 ≤ w a b ∧ w a b ≤ 300) (l : List Int) : 0 ≤ (trR w tw home l).2 ∧ (trR w tw home l).2 ≤ 300 * l.length := by
  induction l with
  | nil => exact ⟨Int.le_refl 0, by simp [trR]⟩
  | cons e l ih =>
    have := hw (trR w tw home l).1 (tw e)
    rw [trR_c]
    simp only [List.length_cons]
    constructor
    · show 0 ≤ (trR w tw home l).2 + _; omega
    · show (trR w tw home l).2 + _ ≤ _; omega
theorem hoR_c {ok : Int → Int → Bool} {b a : Int} {l : List Int} : hoR ok (b :: a :: l) = (ok a b && hoR ok (a :: l)) := rfl
theorem hoR_1 {ok : Int → Int → Bool} {b : Int} : hoR ok [b] = true := rfl
theorem hoR_t {ok : Int → Int → Bool} {b : Int} {l : List Int} (h : hoR ok (b :: l) = true) : hoR ok l = true := by
  unfold hoR at h; exact (Bool.and_eq_true _ _ ▸ h).2
theorem trR_congr {w w' : Int → Int → Int} {tw tw' : Int → Int} {home : Int} (l : List Int) (ht : ∀ e ∈ l, tw e = tw' e) (hT : ∀ e ∈ l, 0 ≤ tw e ∧ tw e ≤ 5) (hh : 0 ≤ home ∧ home ≤ 5) (hw : ∀ a b, 0 ≤ a → a ≤ 5 → 0 ≤ b → b ≤ 5 → w a b = w' a b) : trR w tw home l = trR w' tw' home l ∧ 0 ≤ (trR w tw home l).1 ∧ (trR w tw home l).1 ≤ 5 := by
  induction l with
  | nil => exact ⟨rfl, hh.1, hh.2⟩
  | cons e l ih =>
    obtain ⟨q1, q2, q3⟩ := ih (fun y hy => ht y (List.mem_cons_of_mem _ hy)) (fun y hy => hT y (List.mem_cons_of_mem _ hy))
    have t := hT e List.mem_cons_self
    refine ⟨?_, t.1, t.2⟩
    rw [trR_c, trR_c, ← q1, ← ht e List.mem_cons_self, hw _ _ q2 q3 t.1 t.2]
theorem trT_congr {w w' : Int → Int → Int} {tw tw' : Int → Int} {home : Int} (l : List Int) (ht : ∀ e ∈ l, tw e = tw' e) (hT : ∀ e ∈ l, 0 ≤ tw e ∧ tw e ≤ 5) (hh : 0 ≤ home ∧ home ≤ 5) (hw : ∀ a b, 0 ≤ a → a ≤ 5 → 0 ≤ b → b ≤ 5 → w a b = w' a b) : trT w tw home l = trT w' tw' home l := by
  obtain ⟨q1, q2, q3⟩ := trR_congr l ht hT hh hw
  unfold trT
  rw [← q1, hw _ _ q2 q3 hh.1 hh.2]
theorem hoR_congr {ok ok' : Int → Int → Bool} (l : List Int) (h : ∀ a ∈ l, ∀ b ∈ l, ok a b = ok' a b) : hoR ok l = hoR ok' l := by
  induction l with
  | nil => rfl
  | cons b l ih =>
    have q := ih (fun x hx y hy => h x (List.mem_cons_of_mem _ hx) y (List.mem_cons_of_mem _ hy))
    cases l with
    | nil => rfl
    | cons a m => rw [hoR_c, hoR_c, q, h a (List.mem_cons_of_mem _ List.mem_cons_self) b List.mem_cons_self]
