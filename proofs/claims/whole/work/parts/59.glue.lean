/-! both sides tell the same -/
set_option maxHeartbeats 2000000 in
theorem gd_eq {a b : Mem} (h : IA a b) : gdC a = gdM b := by
  obtain ⟨h1, _, h7, h8, h9, h10, h11, h12⟩ := h
  funext p y t
  unfold gdC gdM
  rw [show a 8 = b 73 from funext h8, show a 9 = b 74 from funext h9, show a 10 = b 75 from funext h10, show a 11 = b 76 from funext h11, show a 12 = b 77 from funext h12, show a 7 = b 71 from funext h7, h1]
theorem wy_eq {a b : Mem} (h : IW a b) : wyC a = wyM b := by
  funext x y
  unfold wyC wyM
  rw [show a 2 = b 70 from funext h.1, show x * 6 + y = 6 * x + y by omega]
theorem PM_of {a b : Mem} (h : IA a b) : PM b := by
  obtain ⟨h1, h2, h7, h8, h9, h10, h11, h12⟩ := h
  unfold PM
  rw [← h1, show b 71 = a 7 from (funext h7).symm, show b 75 = a 10 from (funext h10).symm]
  exact ⟨h2.1, fun i i0 i1 => (h2.2.1 i i0 i1).2, h2.2.2⟩
theorem WM_of {a b : Mem} (h : IW a b) : WM b := fun j h0 h1 => by rw [← h.1]; exact h.2.1 j h0 h1
theorem HM_of {a b : Mem} {n : Nat} (h : IH a b n) : ∀ k, 0 ≤ k → k < b 69 12 → HM b k := fun k k0 k1 => by
  obtain ⟨h1, h2, h3, h4, h5⟩ := h
  have q := h4 k k0 (by omega)
  have := h1.2.1
  unfold HM
  rw [q.2.1.1, q.2.1.2.2.2.2.2.1]
  have z := q.1
  unfold HC at z
  omega
theorem HR_of {a b : Mem} {n : Nat} (h : IH a b n) : ∀ k, 0 ≤ k → k < b 69 12 → HR b k := fun k k0 k1 => by
  obtain ⟨h1, h2, h3, h4, h5⟩ := h
  have q := h4 k k0 (by omega)
  have := h1.2.1
  unfold HR
  rw [q.2.1.2.2.1, q.2.1.2.2.2.1, q.2.1.2.2.2.2.1]
  have z := q.1
  unfold HC at z
  omega
theorem ab_eq {a b : Mem} {n : Nat} (hP : IP a b) (hA : IA a b) (hH : IH a b n) {h : Int} (h0 : 0 ≤ h) (h1 : h < a 14 1) {p : Int} (p0 : 0 ≤ p) (p5 : p < 5) (t : Int) : abC a (114 + h) p t = (decide (p < a 3 2) && abM b h p t) := by
  have q := (hH.2.2.2.1 h h0 h1).2.1
  unfold abC abM
  rw [gd_eq hA, show a 5 = b 78 from funext hP.2.2.2.2.1, ← q.1, ← q.2.1, ← q.2.2.2.2.2.2, show p * 20 + b 79 h = 20 * p + b 79 h by omega, Bool.and_assoc]
  congr 1
  exact decide_eq_decide.mpr (by omega)
theorem ext_l {S S' : Nat → List Tm} {F F' : Nat → List Tm} (s0 : S 0 = []) (s0' : S' 0 = []) (hs : ∀ k, S (k + 1) = S k ++ F k) (hs' : ∀ k, S' (k + 1) = S' k ++ F' k) {P Q : Nat} (hPQ : P ≤ Q) (h1 : ∀ k, k < P → F k = F' k) (h2 : ∀ k, P ≤ k → k < Q → F k = []) : S Q = S' P := by
  have e1 : ∀ m, m ≤ P → S m = S' m := by
    intro m
    induction m with
    | zero => intro _; rw [s0, s0']
    | succ m ih => intro hm; rw [hs, hs', ih (by omega), h1 m (by omega)]
  have e2 : ∀ k, P + k ≤ Q → S (P + k) = S' P := by
    intro k
    induction k with
    | zero => intro _; exact e1 P (Nat.le_refl _)
    | succ k ih => intro hk; rw [← Nat.add_assoc, hs, ih (by omega), h2 (P + k) (by omega) (by omega), List.append_nil]
  have := e2 (Q - P) (by omega)
  rwa [show P + (Q - P) = Q by omega] at this
theorem rlF_congr {ab ab' : Int → Int → Bool} {x y tg : Int} (hx : ∀ t, ab x t = ab' x t) (hy : ∀ t, ab y t = ab' y t) (k : Nat) : rlF ab x y tg k = rlF ab' x y tg k := by
  induction k with
  | zero => rfl
  | succ k ih => unfold rlF; rw [ih, hx, hx, hy, hy]
theorem rlF_n {ab : Int → Int → Bool} {x y tg : Int} (h : (∀ t, ab x t = false) ∨ (∀ t, ab y t = false)) (k : Nat) : rlF ab x y tg k = -1 := by
  induction k with
  | zero => rfl
  | succ k ih =>
    unfold rlF
    rw [if_neg, ih]
    rintro ⟨_, ⟨q1, _⟩, q2, _⟩
    rcases h with h | h
    · rw [h] at q1; cases q1
    · rw [h] at q2; cases q2
theorem rlX_congr {ab ab' : Int → Int → Bool} {x y tg : Int} (hx : ∀ t, ab x t = ab' x t) (hy : ∀ t, ab y t = ab' y t) : rlX ab x y tg = rlX ab' x y tg := by
  unfold rlX; rw [rlF_congr hx hy]
theorem rlX_n {ab : Int → Int → Bool} {x y tg : Int} (h : (∀ t, ab x t = false) ∨ (∀ t, ab y t = false)) : rlX ab x y tg = -1 := by
  unfold rlX; rw [rlF_n h]; split <;> rfl
theorem rlI_n {ab : Int → Int → Bool} {tg : Int} {x : Nat} (h : ∀ t, ab x t = false) (k : Nat) : rlI ab tg x k = [] := by
  induction k with
  | zero => rfl
  | succ k ih => rw [rlI_s, ih, rlX_n (Or.inl h)]; rfl
theorem tmL_ext {ab ab' : Int → Int → Bool} {P Q : Nat} (hPQ : P ≤ Q) (h1 : ∀ p : Nat, p < P → ∀ t, ab p t = ab' p t) (h2 : ∀ p : Nat, P ≤ p → p < Q → ∀ t, ab p t = false) {lg lg' : Prop} [Decidable lg] [Decidable lg'] (hl : lg ↔ lg') {tg : Int} : tmL ab Q lg tg = tmL ab' P lg' tg := by
  have e1 : sgN ab tg Q = sgN ab' tg P := ext_l (S := sgN ab tg) (S' := sgN ab' tg) rfl rfl (fun k => sgN_s) (fun k => sgN_s) hPQ (fun k hk => by rw [h1 k hk, h1 k hk]) (fun k k1 k2 => by rw [if_neg]; rintro ⟨q, _⟩; rw [h2 k k1 k2] at q; cases q)
  have e2 : ∀ x : Nat, x < P → prI ab tg x Q = prI ab' tg x P := fun x hx => ext_l (S := prI ab tg x) (S' := prI ab' tg x) rfl rfl (fun k => prI_s) (fun k => prI_s) hPQ (fun k hk => by rw [h1 k hk, h1 k hk, h1 x hx, h1 x hx]) (fun k k1 k2 => by rw [if_neg]; rintro ⟨_, _, q, _⟩; rw [h2 k k1 k2] at q; cases q)
  have e3 : prN ab tg Q Q = prN ab' tg P P := ext_l (S := prN ab tg Q) (S' := prN ab' tg P) rfl rfl (fun k => prN_s) (fun k => prN_s) hPQ (fun k hk => e2 k hk) (fun k k1 k2 => prI_n (fun q => by rw [h2 k k1 k2] at q; cases q.1) Q)
  have e4 : ∀ x : Nat, x < P → rlI ab tg x Q = rlI ab' tg x P := fun x hx => ext_l (S := rlI ab tg x) (S' := rlI ab' tg x) rfl rfl (fun k => rlI_s) (fun k => rlI_s) hPQ (fun k hk => by rw [rlX_congr (h1 x hx) (h1 k hk)]) (fun k k1 k2 => by rw [rlX_n (Or.inr (h2 k k1 k2))]; rfl)
  have e5 : rlN ab tg Q Q = rlN ab' tg P P := ext_l (S := rlN ab tg Q) (S' := rlN ab' tg P) rfl rfl (fun k => rlN_s) (fun k => rlN_s) hPQ (fun k hk => e4 k hk) (fun k k1 k2 => rlI_n (h2 k k1 k2) Q)
  unfold tmL
  rw [e1, e3, e5]
  by_cases c : lg
  · rw [if_pos c, if_pos (hl.mp c)]
  · rw [if_neg c, if_neg (fun z => c (hl.mpr z))]
theorem tm_eq {a b : Mem} {n P : Nat} (hP : IP a b) (hA : IA a b) (hH : IH a b n) (hPp : a 3 2 = (P : Int)) {h : Int} (h0 : 0 ≤ h) (h1 : h < a 14 1) : tmL (abC a (114 + h)) 5 (90 < a (114 + h) 1) (a (114 + h) 3) = tmL (abM b h) P (90 < b 82 h) (b 84 h) := by
  have q := (hH.2.2.2.1 h h0 h1).2.1
  have p5 := hP.2.1.2
  rw [q.2.2.2.2.2.1]
  refine tmL_ext (by omega) (fun p hp t => ?_) (fun p p1 p2 t => ?_) (by rw [q.2.2.2.1])
  · rw [ab_eq hP hA hH h0 h1 (by omega) (by omega), decide_eq_true (by omega), Bool.true_and]
  · rw [ab_eq hP hA hH h0 h1 (by omega) (by omega), decide_eq_false (by omega), Bool.false_and]
theorem mem_l {S : Nat → List Tm} {F : Nat → List Tm} (s0 : S 0 = []) (hs : ∀ k, S (k + 1) = S k ++ F k) {t : Tm} : ∀ m, t ∈ S m → ∃ k, t ∈ F k := by
  intro m
  induction m with
  | zero => intro h; rw [s0] at h; cases h
  | succ m ih =>
    intro h
    rw [hs] at h
    rcases List.mem_append.mp h with h | h
    · exact ih h
    · exact ⟨m, h⟩
theorem tmL_m {ab : Int → Int → Bool} {P : Nat} {lg : Prop} [Decidable lg] {tg : Int} {t : Tm} (ht : t ∈ tmL ab P lg tg) : ¬ t.2.1 = -1 → (t.2.2 = -1 ↔ lg) := by
  intro hn
  unfold tmL at ht
  by_cases c : lg
  · rw [if_pos c] at ht
    obtain ⟨x, hx⟩ := mem_l (S := prN ab tg P) rfl (fun k => prN_s) P ht
    obtain ⟨k, hk⟩ := mem_l (S := prI ab tg x) rfl (fun k => prI_s) P hx
    split at hk
    · rw [List.mem_singleton.mp hk]; exact ⟨fun _ => c, fun _ => rfl⟩
    · cases hk
  · rw [if_neg c] at ht
    split at ht
    · obtain ⟨x, hx⟩ := mem_l (S := rlN ab tg P) rfl (fun k => rlN_s) P ht
      obtain ⟨k, hk⟩ := mem_l (S := rlI ab tg x) rfl (fun k => rlI_s) P hx
      split at hk
      · cases hk
      · rename_i hr
        rw [List.mem_singleton.mp hk]; exact ⟨fun z => absurd z hr, fun z => absurd z c⟩
    · obtain ⟨x, hx⟩ := mem_l (S := sgN ab tg) rfl (fun k => sgN_s) P ht
      split at hx
      · rw [List.mem_singleton.mp hx] at hn; exact absurd rfl hn
      · cases hx
theorem lv_eq {a b : Mem} {n : Nat} (hH : IH a b n) {y h : Int} (h0 : 0 ≤ h) (h1 : h < a 14 1) : lvC a y h = lvM b y h := by
  have q := (hH.2.2.2.1 h h0 h1).2
  have q1 := q.1.2.1
  have q2 := q.2.1
  unfold lvC lvM
  exact decide_eq_decide.mpr (by omega)
theorem se_eq {a b : Mem} {n : Nat} (hH : IH a b n) {p h : Int} (p0 : 0 ≤ p) (h0 : 0 ≤ h) (h1 : h < a 14 1) : seC a p h = seM b p h := by
  have q := (hH.2.2.2.1 h h0 h1).2.2.2.1
  unfold seC seM
  exact decide_eq_decide.mpr (by omega)
theorem dl_eq {a b : Mem} {n : Nat} (hH : IH a b n) {y : Int} : dlN (lvC a y) (a 14 1).toNat = dlN (lvM b y) (b 69 12).toNat := by
  rw [← hH.2.1]
  have := hH.1.1
  exact dlN_congr _ (fun i hi => lv_eq hH (by omega) (by omega))
theorem ds_eq {a b : Mem} {n : Nat} (hH : IH a b n) {y p : Int} (p0 : 0 ≤ p) : dlN (fun h => lvC a y h && seC a p h) (a 14 1).toNat = dlN (fun h => lvM b y h && seM b p h) (b 69 12).toNat := by
  rw [← hH.2.1]
  have := hH.1.1
  exact dlN_congr _ (fun i hi => by rw [lv_eq hH (by omega) (by omega), se_eq hH p0 (by omega) (by omega)])
theorem tr_eq {a b : Mem} {n : Nat} (hW : IW a b) (hH : IH a b n) {home : Int} (hh : 0 ≤ home ∧ home ≤ 5) {l : List Int} (hl : ∀ h ∈ l, 0 ≤ h ∧ h < a 14 1) : trT (wyC a) (fun h => a (114 + h) 2) home l = trT (wyM b) (b 83) home l := by
  rw [wy_eq hW]
  refine trT_congr l (fun e he => ?_) (fun e he => ?_) hh (fun _ _ _ _ _ _ => rfl)
  · exact (hH.2.2.2.1 e (hl e he).1 (hl e he).2).2.1.2.2.2.2.1.symm
  · exact (hH.2.2.2.1 e (hl e he).1 (hl e he).2).1.2.2.1
theorem tr_nil {a b : Mem} (hW : IW a b) {home : Int} {tw : Int → Int} (hh : 0 ≤ home ∧ home ≤ 5) : trT (wyM b) tw home [] = 0 := by
  show 0 + wyM b home home = 0
  rw [← wy_eq hW]
  unfold wyC
  rw [if_pos ⟨hh, hh⟩, hW.2.2.1 home hh.1 hh.2]; rfl
theorem is_eq {a b : Mem} {n : Nat} (hH : IH a b n) {L : List Int} (hl : ∀ h ∈ L, 0 ≤ h ∧ h < a 14 1) : isR (fun h => a (114 + h) 6) L = isR (b 81) L := isR_congr L (fun h hh => (hH.2.2.2.1 h (hl h hh).1 (hl h hh).2).2.1.2.2.1.symm)
theorem al_eq {a b : Mem} {n : Nat} (hW : IW a b) (hH : IH a b n) {x y : Int} (x0 : 0 ≤ x ∧ x < a 14 1) (y0 : 0 ≤ y ∧ y < a 14 1) : alC a x y = alM b x y := by
  have qx := (hH.2.2.2.1 x x0.1 x0.2).2.1
  have qy := (hH.2.2.2.1 y y0.1 y0.2).2.1
  unfold alC alM
  rw [wy_eq hW, hW.2.2.2.1, qx.2.2.1, qx.2.2.2.1, qx.2.2.2.2.1, qy.2.2.1, qy.2.2.2.2.1]
theorem tl_eq {a b : Mem} (hF : IF a b) {y w : Int} : tlC a (a 0 9) y w = tlM b y w := by
  obtain ⟨_, l, c1, c2, c3⟩ := hF
  unfold tlC tlM
  rw [c1.1, c2.1, Int.toNat_natCast]
  have ek : ∀ i : Nat, i < l.length → a (a 0 9 + 2) (i : Int) = b 99 (i : Int) ∧ a (a 0 9 + 1) (i : Int) = b 100 (i : Int) := fun i hi => by
    have q1 := c1.2 i l[i] (List.getElem?_eq_getElem hi)
    have q2 := c2.2 i l[i] (List.getElem?_eq_getElem hi)
    exact ⟨by rw [q1.2.1, q2.1], by rw [q1.1, q2.2.1]⟩
  rw [clN_congr l.length (fun i hi => (ek i hi).1) (fun i hi => (ek i hi).2)]
  have hb := clN_b (key := b 99) (day := b 100) (s := if w = 5 then 4 else w) (y := y) l.length
  generalize clN (b 99) (b 100) (if w = 5 then 4 else w) y l.length = h at *
  unfold tlF
  by_cases e : h = -1
  · rw [if_pos e, if_pos e]
  · rw [if_neg e, if_neg e]
    have hk := hb.2.2 (by omega)
    have hi : h.toNat < l.length := by omega
    have q1 := c1.2 h.toNat l[h.toNat] (List.getElem?_eq_getElem hi)
    have q2 := c2.2 h.toNat l[h.toNat] (List.getElem?_eq_getElem hi)
    rw [show ((h.toNat : Nat) : Int) = h by omega] at q1 q2
    obtain ⟨q11, q12, q13, q14⟩ := q1
    obtain ⟨q21, q22, q23, q24⟩ := q2
    rw [q21] at hk
    show (if w = 5 then a (a 0 9 + 4) h else a (a 0 9 + 3) h) = if w = 4 then b 102 h else b 101 h
    rw [q13, q14, q23, q24, hk]
    by_cases w5 : w = 5
    · rw [if_pos w5, if_pos w5, if_neg (by omega), if_pos rfl]
    · rw [if_neg w5, if_neg w5]
      by_cases w4 : w = 4
      · rw [if_pos w4, if_pos w4]
      · rw [if_neg w4, if_neg w4]
theorem fe_eq {a b : Mem} {n : Nat} (hF : IF a b) (hH : IH a b n) {p y : Int} (p0 : 0 ≤ p) : feC a p y (a 14 1).toNat = feM b p y (b 69 12).toNat := by
  rw [← hH.2.1]
  have n0 := hH.1.1
  have et : tlC a (a 0 9) y = tlM b y := funext fun w => tl_eq hF
  unfold feC feM
  rw [et]
  refine feN_congr _ (fun i hi => ⟨?_, fun _ => ?_⟩)
  · have q := (hH.2.2.2.1 i (by omega) (by omega)).2.1.2.1
    rw [se_eq hH p0 (by omega) (by omega), q]
  · have q := (hH.2.2.2.1 i (by omega) (by omega)).2
    obtain ⟨⟨q79, q80, q81, q82, q83, q84, q85⟩, q7, ⟨q87, q88⟩, q89⟩ := q
    show eaX (tlM b y) (a (114 + (i : Int)) 1) (a (114 + (i : Int)) 4) (a (114 + (i : Int)) 10) (if 90 < a (114 + (i : Int)) 1 then 2 else 3) (¬ a (114 + (i : Int)) 7 = 0) (a (114 + (i : Int)) 8) = eaX (tlM b y) (b 82 (i : Int)) (b 85 (i : Int)) (b 88 (i : Int)) (if b 89 (i : Int) = -1 then 2 else 3) (0 ≤ b 86 (i : Int)) (b 86 (i : Int))
    rw [← q82, ← q85, ← q88]
    unfold eaX
    have e2 : ∀ x z : Int, (if b 88 (i : Int) = -1 then x else Zldiv (Zlmul z (tlM b y (if 90 < b 82 (i : Int) then 2 else 3))) 100) = (if b 88 (i : Int) = -1 then x else Zldiv (Zlmul z (tlM b y (if b 89 (i : Int) = -1 then 2 else 3))) 100) := fun x z => by
      by_cases c : b 88 (i : Int) = -1
      · rw [if_pos c, if_pos c]
      · rw [if_neg c, if_neg c]
        have q := q89 c
        by_cases c2 : 90 < b 82 (i : Int)
        · rw [if_pos c2, if_pos (q.mpr c2)]
        · rw [if_neg c2, if_neg (fun z => c2 (q.mp z))]
    rw [e2]
    rcases q7 with q7 | q7
    · have k1 : ¬ ¬ a (114 + (i : Int)) 7 = 0 := fun z => z q7.1
      have k2 : ¬ 0 ≤ b 86 (i : Int) := by omega
      rw [if_neg k1, if_neg k2]
    · have k1 : ¬ a (114 + (i : Int)) 7 = 0 := by omega
      rw [q7.2.2, if_pos k1, if_pos q7.2.1]
