/-! the invariant between both sides -/
def IW (a b : Mem) : Prop := (∀ j, a 2 j = b 70 j) ∧ WV a ∧ (∀ t, 0 ≤ t → t ≤ 5 → a 2 (t * 6 + t) = 0) ∧ a 1 1 = b 69 11 ∧ (0 ≤ a 1 1 ∧ a 1 1 ≤ 120)
def IP (a b : Mem) : Prop := a 3 2 = b 69 2 ∧ (0 ≤ a 3 2 ∧ a 3 2 ≤ 5) ∧ (∀ j, a 4 j = b 72 j) ∧ (∀ q, 0 ≤ q → q < a 3 2 → 0 ≤ a 4 q ∧ a 4 q ≤ 5) ∧ (∀ j, a 5 j = b 78 j) ∧ (∀ j, a 5 j = 0 ∨ a 5 j = 1)
def IA (a b : Mem) : Prop := a 6 7 = b 69 4 ∧ PV a ∧ (∀ j, a 7 j = b 71 j) ∧ (∀ j, a 8 j = b 73 j) ∧ (∀ j, a 9 j = b 74 j) ∧ (∀ j, a 10 j = b 75 j) ∧ (∀ j, a 11 j = b 76 j) ∧ (∀ j, a 12 j = b 77 j)
def HE (a b : Mem) (h : Int) : Prop := (b 79 h = a (114 + h) 0 ∧ b 80 h = a (114 + h) 5 ∧ b 81 h = a (114 + h) 6 ∧ b 82 h = a (114 + h) 1 ∧ b 83 h = a (114 + h) 2 ∧ b 84 h = a (114 + h) 3 ∧ b 85 h = a (114 + h) 4) ∧ ((a (114 + h) 7 = 0 ∧ b 86 h < 0) ∨ (a (114 + h) 7 = 1 ∧ 0 ≤ b 86 h ∧ a (114 + h) 8 = b 86 h)) ∧ (b 87 h = a (114 + h) 9 ∧ b 88 h = a (114 + h) 10) ∧ (¬ b 88 h = -1 → (b 89 h = -1 ↔ 90 < b 82 h))
def IH (a b : Mem) (n : Nat) : Prop := DK a ∧ a 14 1 = b 69 12 ∧ (n : Int) = 114 + a 14 1 ∧ (∀ h, 0 ≤ h → h < a 14 1 → HC a (114 + h) ∧ HE a b h) ∧ (∀ y, (dlN (lvC a y) (a 14 1).toNat).length ≤ 4)
def IL (a b : Mem) : Prop := a 24 7 = b 69 37 ∧ a 24 8 = b 69 38 ∧ a 24 9 = b 69 34 ∧ a 24 10 = b 69 35 ∧ a 24 11 = b 69 36
def IT (a b : Mem) : Prop := a 50 3 = b 69 40 ∧ BV a ∧ (∀ j, a 51 j = b 98 j) ∧ (∀ x, 0 ≤ x → x < 37 → b 107 x = WL x)
def IF (a b : Mem) : Prop := ((a 0 9 = 59 ∧ a 0 10 = 64) ∨ (a 0 9 = 64 ∧ a 0 10 = 59)) ∧ ∃ l : List Cl, CLs a (a 0 9) l ∧ CLK b l ∧ l.length ≤ 60
def IQ (a b : Mem) : Prop := a 52 6 = b 69 55 ∧ (0 ≤ a 52 6 ∧ a 52 6 ≤ 60) ∧ (∀ j, a 53 j = b 108 j) ∧ (∀ j, a 54 j = b 109 j) ∧ (∀ j, a 55 j = b 110 j) ∧ (∀ j, a 58 j = b 111 j) ∧ (∀ j, a 56 j = b 112 j) ∧ (∀ j, a 57 j = b 113 j) ∧ (∀ j, a 56 j = 0 ∨ a 56 j = 1) ∧ (∀ k, 0 ≤ k → k < a 52 6 → 0 ≤ a 55 k ∧ (a 58 k = -1 ∨ a 55 k ≤ a 58 k))
theorem IW.fr {a b a' b' : Mem} (h : IW a b) (ha : ∀ c j, (c = 2 ∨ (c = 1 ∧ j = 1)) → a' c j = a c j) (hb : ∀ c j, (c = 70 ∨ (c = 69 ∧ j = 11)) → b' c j = b c j) : IW a' b' := by
  have e2 : a' 2 = a 2 := funext fun j => ha 2 j (by omega)
  have e70 : b' 70 = b 70 := funext fun j => hb 70 j (by omega)
  unfold IW WV
  rw [e2, e70, ha 1 1 (by omega), hb 69 11 (by omega)]
  exact h
theorem IP.fr {a b a' b' : Mem} (h : IP a b) (ha : ∀ c j, ((c = 3 ∧ j = 2) ∨ c = 4 ∨ c = 5) → a' c j = a c j) (hb : ∀ c j, ((c = 69 ∧ j = 2) ∨ c = 72 ∨ c = 78) → b' c j = b c j) : IP a' b' := by
  have e4 : a' 4 = a 4 := funext fun j => ha 4 j (by omega)
  have e5 : a' 5 = a 5 := funext fun j => ha 5 j (by omega)
  have e72 : b' 72 = b 72 := funext fun j => hb 72 j (by omega)
  have e78 : b' 78 = b 78 := funext fun j => hb 78 j (by omega)
  unfold IP
  rw [e4, e5, e72, e78, ha 3 2 (by omega), hb 69 2 (by omega)]
  exact h
theorem IA.fr {a b a' b' : Mem} (h : IA a b) (ha : ∀ c j, ((c = 6 ∧ j = 7) ∨ (7 ≤ c ∧ c ≤ 12)) → a' c j = a c j) (hb : ∀ c j, ((c = 69 ∧ j = 4) ∨ c = 71 ∨ (73 ≤ c ∧ c ≤ 77)) → b' c j = b c j) : IA a' b' := by
  have e : ∀ c, 7 ≤ c → c ≤ 12 → a' c = a c := fun c h1 h2 => funext fun j => ha c j (by omega)
  have e2 : ∀ c, 73 ≤ c → c ≤ 77 → b' c = b c := fun c h1 h2 => funext fun j => hb c j (by omega)
  have e71 : b' 71 = b 71 := funext fun j => hb 71 j (by omega)
  unfold IA PV
  rw [e 7 (by omega) (by omega), e 8 (by omega) (by omega), e 9 (by omega) (by omega), e 10 (by omega) (by omega), e 11 (by omega) (by omega), e 12 (by omega) (by omega), e71, e2 73 (by omega) (by omega), e2 74 (by omega) (by omega), e2 75 (by omega) (by omega), e2 76 (by omega) (by omega), e2 77 (by omega) (by omega), ha 6 7 (by omega), hb 69 4 (by omega)]
  exact h
theorem HE.fr {a b a' b' : Mem} {h : Int} (q : HE a b h) (ha : ∀ j, a' (114 + h) j = a (114 + h) j) (hb : ∀ c, 79 ≤ c → c ≤ 89 → b' c h = b c h) : HE a' b' h := by
  have e : a' (114 + h) = a (114 + h) := funext ha
  unfold HE
  rw [e, hb 79 (by omega) (by omega), hb 80 (by omega) (by omega), hb 81 (by omega) (by omega), hb 82 (by omega) (by omega), hb 83 (by omega) (by omega), hb 84 (by omega) (by omega), hb 85 (by omega) (by omega), hb 86 (by omega) (by omega), hb 87 (by omega) (by omega), hb 88 (by omega) (by omega), hb 89 (by omega) (by omega)]
  exact q
theorem HC.fr2 {a a' : Mem} {H : Int} (q : HC a H) (ha : ∀ j, a' H j = a H j) : HC a' H := by
  have e : a' H = a H := funext ha
  unfold HC
  rw [e]
  exact q
theorem IH.fr {a b a' b' : Mem} {n : Nat} (h : IH a b n) (ha : ∀ c j, ((c = 14 ∧ j = 1) ∨ c = 15 ∨ 114 ≤ c) → a' c j = a c j) (hb : ∀ c j, ((c = 69 ∧ j = 12) ∨ (79 ≤ c ∧ c ≤ 89)) → b' c j = b c j) : IH a' b' n := by
  obtain ⟨h1, h2, h3, h4, h5⟩ := h
  have e14 : a' 14 1 = a 14 1 := ha 14 1 (by omega)
  have e15 : a' 15 = a 15 := funext fun j => ha 15 j (by omega)
  refine ⟨?_, by rw [e14, hb 69 12 (by omega)]; exact h2, by rw [e14]; exact h3, ?_, ?_⟩
  · unfold DK; rw [e14, e15]; exact h1
  · rw [e14]
    intro k q1 q2
    exact ⟨(h4 k q1 q2).1.fr2 (fun j => ha _ _ (by omega)), (h4 k q1 q2).2.fr (fun j => ha _ _ (by omega)) (fun c _ _ => hb _ _ (by omega))⟩
  · rw [e14]
    intro y
    rw [dlN_congr (q := lvC a y) _ (fun i hi => by unfold lvC; rw [ha (114 + (i : Int)) 5 (by omega), ha (114 + (i : Int)) 7 (by omega)])]
    exact h5 y
theorem IL.fr {a b a' b' : Mem} (h : IL a b) (ha : ∀ c j, (c = 24 ∧ 7 ≤ j ∧ j ≤ 11) → a' c j = a c j) (hb : ∀ c j, (c = 69 ∧ 34 ≤ j ∧ j ≤ 38) → b' c j = b c j) : IL a' b' := by
  unfold IL
  rw [ha 24 7 (by omega), ha 24 8 (by omega), ha 24 9 (by omega), ha 24 10 (by omega), ha 24 11 (by omega), hb 69 34 (by omega), hb 69 35 (by omega), hb 69 36 (by omega), hb 69 37 (by omega), hb 69 38 (by omega)]
  exact h
theorem IT.fr {a b a' b' : Mem} (h : IT a b) (ha : ∀ c j, ((c = 50 ∧ j = 3) ∨ c = 51) → a' c j = a c j) (hb : ∀ c j, ((c = 69 ∧ j = 40) ∨ c = 98 ∨ c = 107) → b' c j = b c j) : IT a' b' := by
  have e51 : a' 51 = a 51 := funext fun j => ha 51 j (by omega)
  have e98 : b' 98 = b 98 := funext fun j => hb 98 j (by omega)
  have e107 : b' 107 = b 107 := funext fun j => hb 107 j (by omega)
  unfold IT BV
  rw [e51, e98, e107, ha 50 3 (by omega), hb 69 40 (by omega)]
  exact h
theorem CLs.fr2 {a a' : Mem} {T : Int} {l : List Cl} (h : CLs a T l) (ha : ∀ c j, ((c = T ∧ j = 4) ∨ (T + 1 ≤ c ∧ c ≤ T + 4)) → a' c j = a c j) : CLs a' T l := by
  refine ⟨by rw [ha T 4 (by omega)]; exact h.1, fun i e he => ?_⟩
  rw [ha (T + 1) _ (by omega), ha (T + 2) _ (by omega), ha (T + 3) _ (by omega), ha (T + 4) _ (by omega)]
  exact h.2 i e he
theorem CLK.fr2 {b b' : Mem} {l : List Cl} (h : CLK b l) (hb : ∀ c j, ((c = 69 ∧ j = 43) ∨ (99 ≤ c ∧ c ≤ 102)) → b' c j = b c j) : CLK b' l := by
  refine ⟨by rw [hb 69 43 (by omega)]; exact h.1, fun i e he => ?_⟩
  rw [hb 99 _ (by omega), hb 100 _ (by omega), hb 101 _ (by omega), hb 102 _ (by omega)]
  exact h.2 i e he
theorem IF.fr {a b a' b' : Mem} (h : IF a b) (ha : ∀ c j, ((c = 0 ∧ (j = 9 ∨ j = 10)) ∨ (59 ≤ c ∧ c ≤ 68)) → a' c j = a c j) (hb : ∀ c j, ((c = 69 ∧ j = 43) ∨ (99 ≤ c ∧ c ≤ 102)) → b' c j = b c j) : IF a' b' := by
  obtain ⟨h1, l, h2, h3, h4⟩ := h
  refine ⟨by rw [ha 0 9 (by omega), ha 0 10 (by omega)]; exact h1, l, ?_, h3.fr2 hb, h4⟩
  rw [ha 0 9 (by omega)]
  exact h2.fr2 (fun c j q => ha c j (by omega))
theorem IQ.fr {a b a' b' : Mem} (h : IQ a b) (ha : ∀ c j, ((c = 52 ∧ j = 6) ∨ (53 ≤ c ∧ c ≤ 58)) → a' c j = a c j) (hb : ∀ c j, ((c = 69 ∧ j = 55) ∨ (108 ≤ c ∧ c ≤ 113)) → b' c j = b c j) : IQ a' b' := by
  have e : ∀ c, 53 ≤ c → c ≤ 58 → a' c = a c := fun c h1 h2 => funext fun j => ha c j (by omega)
  have e2 : ∀ c, 108 ≤ c → c ≤ 113 → b' c = b c := fun c h1 h2 => funext fun j => hb c j (by omega)
  unfold IQ
  rw [e 53 (by omega) (by omega), e 54 (by omega) (by omega), e 55 (by omega) (by omega), e 56 (by omega) (by omega), e 57 (by omega) (by omega), e 58 (by omega) (by omega), e2 108 (by omega) (by omega), e2 109 (by omega) (by omega), e2 110 (by omega) (by omega), e2 111 (by omega) (by omega), e2 112 (by omega) (by omega), e2 113 (by omega) (by omega), ha 52 6 (by omega), hb 69 55 (by omega)]
  exact h
def INV (X : Int → Int) (σ : Mem) (n : Nat) : Prop := GR σ ∧ (∀ j, σ (-2) j = X j) ∧ IW σ σ ∧ IP σ σ ∧ IA σ σ ∧ IH σ σ n ∧ IL σ σ ∧ IT σ σ ∧ IF σ σ ∧ IQ σ σ
theorem INV.g {X : Int → Int} {σ : Mem} {n : Nat} (h : INV X σ n) : GR σ := h.1
theorem INV.s {X : Int → Int} {σ : Mem} {n : Nat} (h : INV X σ n) : ∀ j, σ (-2) j = X j := h.2.1
theorem INV.w {X : Int → Int} {σ : Mem} {n : Nat} (h : INV X σ n) : IW σ σ := h.2.2.1
theorem INV.p {X : Int → Int} {σ : Mem} {n : Nat} (h : INV X σ n) : IP σ σ := h.2.2.2.1
theorem INV.a {X : Int → Int} {σ : Mem} {n : Nat} (h : INV X σ n) : IA σ σ := h.2.2.2.2.1
theorem INV.h {X : Int → Int} {σ : Mem} {n : Nat} (h : INV X σ n) : IH σ σ n := h.2.2.2.2.2.1
theorem INV.l {X : Int → Int} {σ : Mem} {n : Nat} (h : INV X σ n) : IL σ σ := h.2.2.2.2.2.2.1
theorem INV.t {X : Int → Int} {σ : Mem} {n : Nat} (h : INV X σ n) : IT σ σ := h.2.2.2.2.2.2.2.1
theorem INV.f {X : Int → Int} {σ : Mem} {n : Nat} (h : INV X σ n) : IF σ σ := h.2.2.2.2.2.2.2.2.1
theorem INV.q {X : Int → Int} {σ : Mem} {n : Nat} (h : INV X σ n) : IQ σ σ := h.2.2.2.2.2.2.2.2.2
def OP (X : Int → Int) (m1 m2 : Nat) (k : Nat) (g : List AV) : Prop := ∀ (σ : Mem) (n : Nat), INV X σ n → EVM 19 m1 ((21, 0) :: g) σ n (fun r τ n1 => ∃ v : Int, r = some (k, v) ∧ (∀ j, τ (-2) j = X j) ∧ EVM 19 m2 ((22, 69) :: g) τ n1 (fun r2 τ2 n2 => r2 = some (k, v) ∧ INV X τ2 n2))
theorem wr_eq2 {a b : Mem} {c c' i v : Int} (h : ∀ j, a c j = b c' j) : ∀ j, wrM a c i v c j = wrM b c' i v c' j := fun j => by
  rw [wr_if, wr_if, h j]
  by_cases e : j = i
  · rw [if_pos ⟨rfl, e⟩, if_pos ⟨rfl, e⟩]
  · rw [if_neg (fun z => e z.2), if_neg (fun z => e z.2)]
/-- a memory that differs from σ only where neither side's facts lie -/
theorem INV.fr {X : Int → Int} {σ τ : Mem} {n : Nat} (h : INV X σ n) (hg : GR τ) (hf : ∀ c j, ¬ (c = 13 ∨ (16 ≤ c ∧ c ≤ 20) ∨ (c = 21 ∧ j = 2) ∨ (22 ≤ c ∧ c ≤ 23) ∨ (c = 24 ∧ j = 6) ∨ (26 ≤ c ∧ c ≤ 49) ∨ (c = 50 ∧ (j = 1 ∨ j = 2)) ∨ (90 ≤ c ∧ c ≤ 97) ∨ (103 ≤ c ∧ c ≤ 106) ∨ (c = 69 ∧ (j = 28 ∨ j = 33 ∨ j = 41 ∨ j = 42 ∨ j = 48 ∨ j = 54))) → τ c j = σ c j) : INV X τ n :=
  ⟨hg, fun j => by rw [hf _ _ (by omega)]; exact h.s j, h.w.fr (fun c j _ => hf c j (by omega)) (fun c j _ => hf c j (by omega)), h.p.fr (fun c j _ => hf c j (by omega)) (fun c j _ => hf c j (by omega)), h.a.fr (fun c j _ => hf c j (by omega)) (fun c j _ => hf c j (by omega)), h.h.fr (fun c j _ => hf c j (by omega)) (fun c j _ => hf c j (by omega)), h.l.fr (fun c j _ => hf c j (by omega)) (fun c j _ => hf c j (by omega)), h.t.fr (fun c j _ => hf c j (by omega)) (fun c j _ => hf c j (by omega)), h.f.fr (fun c j _ => hf c j (by omega)) (fun c j _ => hf c j (by omega)), h.q.fr (fun c j _ => hf c j (by omega)) (fun c j _ => hf c j (by omega))⟩
