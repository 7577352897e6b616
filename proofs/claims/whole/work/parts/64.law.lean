/-! the law -/
theorem lk_ne {z a : Int} {v : Nat} {l : List (Int × Nat)} (h : ¬ z = a) : ((a, v) :: l).lookup z = l.lookup z := by
  show (match z == a with | true => some v | false => l.lookup z) = l.lookup z
  rw [show (z == a) = false from beq_eq_false_iff_ne.mpr h]
theorem Zlcmp_same (x : Int) : Zlcmp x x = 0 := by
  unfold Zlcmp; rw [if_neg (by omega), if_pos rfl]
theorem EVM.mono {d m : Nat} {a : List AV} {σ : Mem} {n : Nat} {Q R : Pst} (h : EVM d m a σ n Q) (k : ∀ r τ n1, Q r τ n1 → R r τ n1) : EVM d m a σ n R := by
  obtain ⟨f, r, σ', n', h1, h2⟩ := h
  exact ⟨f, r, σ', n', h1, k _ _ _ h2⟩
theorem bd {X : Int → Int} {i L : Int} (hL : X (-1) = L) (h0 : 0 ≤ i) (h8 : i + 8 ≤ L) (hm : L ≤ 4096) {σ : Mem} (hs : ∀ j, σ (-2) j = X j) (k : Int) (k0 : 0 ≤ k) (k8 : k < 8) : 0 ≤ Zadd i k ∧ Zadd i k < σ (-2) (-1) := by
  rw [hs, hL, Zadd_eq (by omega) (by omega)]; omega
theorem c_way {X : Int → Int} {i L : Int} (hL : X (-1) = L) (h0 : 0 ≤ i) (h8 : i + 8 ≤ L) (hm : L ≤ 4096) (hX : ∀ j, -2147483648 ≤ X j ∧ X j ≤ 2147483647) {Q : Pst} (nx : ∀ τ n, INV X τ n → EV 20 179 18 [(5, 0), (21, 0), (22, 69), (0, Zadd i 8)] [] τ n Q) {σ : Mem} {n : Nat} (hI : INV X σ n) : EV 20 179 160 [(5, 0), (21, 0), (22, 69), (0, i)] [] σ n Q := by
  refine b_179_160 (d := 19) (h0 := bd hL h0 h8 hm hI.s 1 (by decide) (by decide)) (h1 := bd hL h0 h8 hm hI.s 2 (by decide) (by decide)) (h2 := bd hL h0 h8 hm hI.s 3 (by decide) (by decide)) (h3 := by decide) (k := ?_)
  (try simp only [hI.s])
  refine (o_way σ n hI).mono (fun r τ n1 q => ?_)
  obtain ⟨v, rfl, hs, hE⟩ := q
  dsimp only [Option.toList_some, List.cons_append, List.nil_append, List.append_nil]
  refine b_179_179 (d := 19) (h0 := bd hL h0 h8 hm hs 1 (by decide) (by decide)) (h1 := bd hL h0 h8 hm hs 2 (by decide) (by decide)) (h2 := bd hL h0 h8 hm hs 3 (by decide) (by decide)) (h3 := by decide) (k := ?_)
  (try simp only [hs])
  refine hE.mono (fun r2 τ2 n2 q2 => ?_)
  obtain ⟨rfl, hI2⟩ := q2
  dsimp only [Option.toList_some, List.cons_append, List.nil_append, List.append_nil]
  refine b_179_198 (ht := fun _ => ?_) (hf := fun c => absurd rfl c)
  exact b_179_1257 (k := nx _ _ hI2)
theorem c_dialect {X : Int → Int} {i L : Int} (hL : X (-1) = L) (h0 : 0 ≤ i) (h8 : i + 8 ≤ L) (hm : L ≤ 4096) (hX : ∀ j, -2147483648 ≤ X j ∧ X j ≤ 2147483647) {Q : Pst} (nx : ∀ τ n, INV X τ n → EV 20 179 18 [(5, 0), (21, 0), (22, 69), (0, Zadd i 8)] [] τ n Q) {σ : Mem} {n : Nat} (hI : INV X σ n) : EV 20 179 203 [(5, 0), (21, 0), (22, 69), (0, i)] [] σ n Q := by
  refine b_179_203 (d := 19) (h0 := bd hL h0 h8 hm hI.s 1 (by decide) (by decide)) (h1 := bd hL h0 h8 hm hI.s 2 (by decide) (by decide)) (h2 := by decide) (k := ?_)
  (try simp only [hI.s])
  refine (o_dialect (hX _) σ n hI).mono (fun r τ n1 q => ?_)
  obtain ⟨v, rfl, hs, hE⟩ := q
  dsimp only [Option.toList_some, List.cons_append, List.nil_append, List.append_nil]
  refine b_179_217 (d := 19) (h0 := bd hL h0 h8 hm hs 1 (by decide) (by decide)) (h1 := bd hL h0 h8 hm hs 2 (by decide) (by decide)) (h2 := by decide) (k := ?_)
  (try simp only [hs])
  refine hE.mono (fun r2 τ2 n2 q2 => ?_)
  obtain ⟨rfl, hI2⟩ := q2
  dsimp only [Option.toList_some, List.cons_append, List.nil_append, List.append_nil]
  refine b_179_231 (ht := fun _ => ?_) (hf := fun c => absurd rfl c)
  exact b_179_1257 (k := nx _ _ hI2)
theorem c_person {X : Int → Int} {i L : Int} (hL : X (-1) = L) (h0 : 0 ≤ i) (h8 : i + 8 ≤ L) (hm : L ≤ 4096) (hX : ∀ j, -2147483648 ≤ X j ∧ X j ≤ 2147483647) {Q : Pst} (nx : ∀ τ n, INV X τ n → EV 20 179 18 [(5, 0), (21, 0), (22, 69), (0, Zadd i 8)] [] τ n Q) {σ : Mem} {n : Nat} (hI : INV X σ n) : EV 20 179 236 [(5, 0), (21, 0), (22, 69), (0, i)] [] σ n Q := by
  refine b_179_236 (d := 19) (h0 := bd hL h0 h8 hm hI.s 1 (by decide) (by decide)) (h1 := by decide) (k := ?_)
  (try simp only [hI.s])
  refine (o_person σ n hI).mono (fun r τ n1 q => ?_)
  obtain ⟨v, rfl, hs, hE⟩ := q
  dsimp only [Option.toList_some, List.cons_append, List.nil_append, List.append_nil]
  refine b_179_245 (d := 19) (h0 := bd hL h0 h8 hm hs 1 (by decide) (by decide)) (h1 := by decide) (k := ?_)
  (try simp only [hs])
  refine hE.mono (fun r2 τ2 n2 q2 => ?_)
  obtain ⟨rfl, hI2⟩ := q2
  dsimp only [Option.toList_some, List.cons_append, List.nil_append, List.append_nil]
  refine b_179_254 (ht := fun _ => ?_) (hf := fun c => absurd rfl c)
  exact b_179_1257 (k := nx _ _ hI2)
theorem c_paper {X : Int → Int} {i L : Int} (hL : X (-1) = L) (h0 : 0 ≤ i) (h8 : i + 8 ≤ L) (hm : L ≤ 4096) (hX : ∀ j, -2147483648 ≤ X j ∧ X j ≤ 2147483647) {Q : Pst} (nx : ∀ τ n, INV X τ n → EV 20 179 18 [(5, 0), (21, 0), (22, 69), (0, Zadd i 8)] [] τ n Q) {σ : Mem} {n : Nat} (hI : INV X σ n) : EV 20 179 259 [(5, 0), (21, 0), (22, 69), (0, i)] [] σ n Q := by
  refine b_179_259 (d := 19) (h0 := bd hL h0 h8 hm hI.s 1 (by decide) (by decide)) (h1 := bd hL h0 h8 hm hI.s 2 (by decide) (by decide)) (h2 := bd hL h0 h8 hm hI.s 3 (by decide) (by decide)) (h3 := bd hL h0 h8 hm hI.s 4 (by decide) (by decide)) (h4 := bd hL h0 h8 hm hI.s 5 (by decide) (by decide)) (h5 := by decide) (k := ?_)
  (try simp only [hI.s])
  refine (o_paper σ n hI).mono (fun r τ n1 q => ?_)
  obtain ⟨v, rfl, hs, hE⟩ := q
  dsimp only [Option.toList_some, List.cons_append, List.nil_append, List.append_nil]
  refine b_179_288 (d := 19) (h0 := bd hL h0 h8 hm hs 1 (by decide) (by decide)) (h1 := bd hL h0 h8 hm hs 2 (by decide) (by decide)) (h2 := bd hL h0 h8 hm hs 3 (by decide) (by decide)) (h3 := bd hL h0 h8 hm hs 4 (by decide) (by decide)) (h4 := bd hL h0 h8 hm hs 5 (by decide) (by decide)) (h5 := by decide) (k := ?_)
  (try simp only [hs])
  refine hE.mono (fun r2 τ2 n2 q2 => ?_)
  obtain ⟨rfl, hI2⟩ := q2
  dsimp only [Option.toList_some, List.cons_append, List.nil_append, List.append_nil]
  refine b_179_317 (ht := fun _ => ?_) (hf := fun c => absurd rfl c)
  exact b_179_1257 (k := nx _ _ hI2)
theorem c_withdraw {X : Int → Int} {i L : Int} (hL : X (-1) = L) (h0 : 0 ≤ i) (h8 : i + 8 ≤ L) (hm : L ≤ 4096) (hX : ∀ j, -2147483648 ≤ X j ∧ X j ≤ 2147483647) {Q : Pst} (nx : ∀ τ n, INV X τ n → EV 20 179 18 [(5, 0), (21, 0), (22, 69), (0, Zadd i 8)] [] τ n Q) {σ : Mem} {n : Nat} (hI : INV X σ n) : EV 20 179 322 [(5, 0), (21, 0), (22, 69), (0, i)] [] σ n Q := by
  refine b_179_322 (d := 19) (h0 := bd hL h0 h8 hm hI.s 1 (by decide) (by decide)) (h1 := bd hL h0 h8 hm hI.s 2 (by decide) (by decide)) (h2 := by decide) (k := ?_)
  (try simp only [hI.s])
  refine (o_withdraw σ n hI).mono (fun r τ n1 q => ?_)
  obtain ⟨v, rfl, hs, hE⟩ := q
  dsimp only [Option.toList_some, List.cons_append, List.nil_append, List.append_nil]
  refine b_179_336 (d := 19) (h0 := bd hL h0 h8 hm hs 1 (by decide) (by decide)) (h1 := bd hL h0 h8 hm hs 2 (by decide) (by decide)) (h2 := by decide) (k := ?_)
  (try simp only [hs])
  refine hE.mono (fun r2 τ2 n2 q2 => ?_)
  obtain ⟨rfl, hI2⟩ := q2
  dsimp only [Option.toList_some, List.cons_append, List.nil_append, List.append_nil]
  refine b_179_350 (ht := fun _ => ?_) (hf := fun c => absurd rfl c)
  exact b_179_1257 (k := nx _ _ hI2)
theorem c_grade {X : Int → Int} {i L : Int} (hL : X (-1) = L) (h0 : 0 ≤ i) (h8 : i + 8 ≤ L) (hm : L ≤ 4096) (hX : ∀ j, -2147483648 ≤ X j ∧ X j ≤ 2147483647) {Q : Pst} (nx : ∀ τ n, INV X τ n → EV 20 179 18 [(5, 0), (21, 0), (22, 69), (0, Zadd i 8)] [] τ n Q) {σ : Mem} {n : Nat} (hI : INV X σ n) : EV 20 179 355 [(5, 0), (21, 0), (22, 69), (0, i)] [] σ n Q := by
  refine b_179_355 (d := 19) (h0 := bd hL h0 h8 hm hI.s 1 (by decide) (by decide)) (h1 := bd hL h0 h8 hm hI.s 2 (by decide) (by decide)) (h2 := bd hL h0 h8 hm hI.s 3 (by decide) (by decide)) (h3 := by decide) (k := ?_)
  (try simp only [hI.s])
  refine (o_grade σ n hI).mono (fun r τ n1 q => ?_)
  obtain ⟨v, rfl, hs, hE⟩ := q
  dsimp only [Option.toList_some, List.cons_append, List.nil_append, List.append_nil]
  refine b_179_374 (d := 19) (h0 := bd hL h0 h8 hm hs 1 (by decide) (by decide)) (h1 := bd hL h0 h8 hm hs 2 (by decide) (by decide)) (h2 := bd hL h0 h8 hm hs 3 (by decide) (by decide)) (h3 := by decide) (k := ?_)
  (try simp only [hs])
  refine hE.mono (fun r2 τ2 n2 q2 => ?_)
  obtain ⟨rfl, hI2⟩ := q2
  dsimp only [Option.toList_some, List.cons_append, List.nil_append, List.append_nil]
  refine b_179_393 (ht := fun _ => ?_) (hf := fun c => absurd rfl c)
  exact b_179_1257 (k := nx _ _ hI2)
theorem c_bar {X : Int → Int} {i L : Int} (hL : X (-1) = L) (h0 : 0 ≤ i) (h8 : i + 8 ≤ L) (hm : L ≤ 4096) (hX : ∀ j, -2147483648 ≤ X j ∧ X j ≤ 2147483647) {Q : Pst} (nx : ∀ τ n, INV X τ n → EV 20 179 18 [(5, 0), (21, 0), (22, 69), (0, Zadd i 8)] [] τ n Q) {σ : Mem} {n : Nat} (hI : INV X σ n) : EV 20 179 398 [(5, 0), (21, 0), (22, 69), (0, i)] [] σ n Q := by
  refine b_179_398 (d := 20) (h0 := bd hL h0 h8 hm hI.s 1 (by decide) (by decide)) (h1 := bd hL h0 h8 hm hI.s 2 (by decide) (by decide)) (h2 := bd hL h0 h8 hm hI.s 3 (by decide) (by decide)) (ht := fun cz => ?_) (hf := fun cz => ?_)
  · rw [hI.s] at cz
    refine b_179_421 (d := 19) (h0 := by decide) (k := ?_)
    (try simp only [hI.s])
    refine (o_bar (Or.inl rfl) σ n hI).mono (fun r τ n1 q => ?_)
    obtain ⟨v, rfl, hs, hE⟩ := q
    dsimp only [Option.toList_some, List.cons_append, List.nil_append, List.append_nil]
    refine b_179_425 (d := 20) (h0 := bd hL h0 h8 hm hs 1 (by decide) (by decide)) (h1 := bd hL h0 h8 hm hs 2 (by decide) (by decide)) (h2 := bd hL h0 h8 hm hs 3 (by decide) (by decide)) (ht := fun _ => ?_) (hf := fun c => absurd (by rw [hs]; exact cz) c)
    refine b_179_448 (d := 19) (h0 := by decide) (k := ?_)
    (try simp only [hs])
    refine hE.mono (fun r2 τ2 n2 q2 => ?_)
    obtain ⟨rfl, hI2⟩ := q2
    dsimp only [Option.toList_some, List.cons_append, List.nil_append, List.append_nil]
    refine b_179_452 (ht := fun _ => ?_) (hf := fun c => absurd rfl c)
    exact b_179_1257 (k := nx _ _ hI2)
  · rw [hI.s] at cz
    refine b_179_417 (d := 19) (h0 := by decide) (k := ?_)
    (try simp only [hI.s])
    refine (o_bar (Or.inr rfl) σ n hI).mono (fun r τ n1 q => ?_)
    obtain ⟨v, rfl, hs, hE⟩ := q
    dsimp only [Option.toList_some, List.cons_append, List.nil_append, List.append_nil]
    refine b_179_425 (d := 20) (h0 := bd hL h0 h8 hm hs 1 (by decide) (by decide)) (h1 := bd hL h0 h8 hm hs 2 (by decide) (by decide)) (h2 := bd hL h0 h8 hm hs 3 (by decide) (by decide)) (ht := fun c => absurd (by rw [hs] at c; exact c) cz) (hf := fun _ => ?_)
    refine b_179_444 (d := 19) (h0 := by decide) (k := ?_)
    (try simp only [hs])
    refine hE.mono (fun r2 τ2 n2 q2 => ?_)
    obtain ⟨rfl, hI2⟩ := q2
    dsimp only [Option.toList_some, List.cons_append, List.nil_append, List.append_nil]
    refine b_179_452 (ht := fun _ => ?_) (hf := fun c => absurd rfl c)
    exact b_179_1257 (k := nx _ _ hI2)
theorem c_rest {X : Int → Int} {i L : Int} (hL : X (-1) = L) (h0 : 0 ≤ i) (h8 : i + 8 ≤ L) (hm : L ≤ 4096) (hX : ∀ j, -2147483648 ≤ X j ∧ X j ≤ 2147483647) {Q : Pst} (nx : ∀ τ n, INV X τ n → EV 20 179 18 [(5, 0), (21, 0), (22, 69), (0, Zadd i 8)] [] τ n Q) {σ : Mem} {n : Nat} (hI : INV X σ n) : EV 20 179 457 [(5, 0), (21, 0), (22, 69), (0, i)] [] σ n Q := by
  refine b_179_457 (d := 19) (h0 := bd hL h0 h8 hm hI.s 1 (by decide) (by decide)) (h1 := by decide) (k := ?_)
  (try simp only [hI.s])
  refine (o_rest σ n hI).mono (fun r τ n1 q => ?_)
  obtain ⟨v, rfl, hs, hE⟩ := q
  dsimp only [Option.toList_some, List.cons_append, List.nil_append, List.append_nil]
  refine b_179_466 (d := 19) (h0 := bd hL h0 h8 hm hs 1 (by decide) (by decide)) (h1 := by decide) (k := ?_)
  (try simp only [hs])
  refine hE.mono (fun r2 τ2 n2 q2 => ?_)
  obtain ⟨rfl, hI2⟩ := q2
  dsimp only [Option.toList_some, List.cons_append, List.nil_append, List.append_nil]
  refine b_179_475 (ht := fun _ => ?_) (hf := fun c => absurd rfl c)
  exact b_179_1257 (k := nx _ _ hI2)
theorem c_hearing {X : Int → Int} {i L : Int} (hL : X (-1) = L) (h0 : 0 ≤ i) (h8 : i + 8 ≤ L) (hm : L ≤ 4096) (hX : ∀ j, -2147483648 ≤ X j ∧ X j ≤ 2147483647) {Q : Pst} (nx : ∀ τ n, INV X τ n → EV 20 179 18 [(5, 0), (21, 0), (22, 69), (0, Zadd i 8)] [] τ n Q) {σ : Mem} {n : Nat} (hI : INV X σ n) : EV 20 179 480 [(5, 0), (21, 0), (22, 69), (0, i)] [] σ n Q := by
  refine b_179_480 (d := 19) (h0 := bd hL h0 h8 hm hI.s 1 (by decide) (by decide)) (h1 := bd hL h0 h8 hm hI.s 2 (by decide) (by decide)) (h2 := bd hL h0 h8 hm hI.s 3 (by decide) (by decide)) (h3 := bd hL h0 h8 hm hI.s 4 (by decide) (by decide)) (h4 := bd hL h0 h8 hm hI.s 5 (by decide) (by decide)) (h5 := bd hL h0 h8 hm hI.s 6 (by decide) (by decide)) (h6 := bd hL h0 h8 hm hI.s 7 (by decide) (by decide)) (h7 := by decide) (k := ?_)
  (try simp only [hI.s])
  refine (o_hearing σ n hI).mono (fun r τ n1 q => ?_)
  obtain ⟨v, rfl, hs, hE⟩ := q
  dsimp only [Option.toList_some, List.cons_append, List.nil_append, List.append_nil]
  refine b_179_521 (d := 19) (h0 := bd hL h0 h8 hm hs 1 (by decide) (by decide)) (h1 := bd hL h0 h8 hm hs 2 (by decide) (by decide)) (h2 := bd hL h0 h8 hm hs 3 (by decide) (by decide)) (h3 := bd hL h0 h8 hm hs 4 (by decide) (by decide)) (h4 := bd hL h0 h8 hm hs 5 (by decide) (by decide)) (h5 := bd hL h0 h8 hm hs 6 (by decide) (by decide)) (h6 := bd hL h0 h8 hm hs 7 (by decide) (by decide)) (h7 := by decide) (k := ?_)
  (try simp only [hs])
  refine hE.mono (fun r2 τ2 n2 q2 => ?_)
  obtain ⟨rfl, hI2⟩ := q2
  dsimp only [Option.toList_some, List.cons_append, List.nil_append, List.append_nil]
  refine b_179_562 (ht := fun _ => ?_) (hf := fun c => absurd rfl c)
  exact b_179_1257 (k := nx _ _ hI2)
theorem c_move {X : Int → Int} {i L : Int} (hL : X (-1) = L) (h0 : 0 ≤ i) (h8 : i + 8 ≤ L) (hm : L ≤ 4096) (hX : ∀ j, -2147483648 ≤ X j ∧ X j ≤ 2147483647) {Q : Pst} (nx : ∀ τ n, INV X τ n → EV 20 179 18 [(5, 0), (21, 0), (22, 69), (0, Zadd i 8)] [] τ n Q) {σ : Mem} {n : Nat} (hI : INV X σ n) : EV 20 179 567 [(5, 0), (21, 0), (22, 69), (0, i)] [] σ n Q := by
  refine b_179_567 (d := 19) (h0 := bd hL h0 h8 hm hI.s 1 (by decide) (by decide)) (h1 := bd hL h0 h8 hm hI.s 2 (by decide) (by decide)) (h2 := bd hL h0 h8 hm hI.s 3 (by decide) (by decide)) (h3 := by decide) (k := ?_)
  (try simp only [hI.s])
  refine (o_move σ n hI).mono (fun r τ n1 q => ?_)
  obtain ⟨v, rfl, hs, hE⟩ := q
  dsimp only [Option.toList_some, List.cons_append, List.nil_append, List.append_nil]
  refine b_179_586 (d := 19) (h0 := bd hL h0 h8 hm hs 1 (by decide) (by decide)) (h1 := bd hL h0 h8 hm hs 2 (by decide) (by decide)) (h2 := bd hL h0 h8 hm hs 3 (by decide) (by decide)) (h3 := by decide) (k := ?_)
  (try simp only [hs])
  refine hE.mono (fun r2 τ2 n2 q2 => ?_)
  obtain ⟨rfl, hI2⟩ := q2
  dsimp only [Option.toList_some, List.cons_append, List.nil_append, List.append_nil]
  refine b_179_605 (ht := fun _ => ?_) (hf := fun c => absurd rfl c)
  exact b_179_1257 (k := nx _ _ hI2)
theorem c_cancel {X : Int → Int} {i L : Int} (hL : X (-1) = L) (h0 : 0 ≤ i) (h8 : i + 8 ≤ L) (hm : L ≤ 4096) (hX : ∀ j, -2147483648 ≤ X j ∧ X j ≤ 2147483647) {Q : Pst} (nx : ∀ τ n, INV X τ n → EV 20 179 18 [(5, 0), (21, 0), (22, 69), (0, Zadd i 8)] [] τ n Q) {σ : Mem} {n : Nat} (hI : INV X σ n) : EV 20 179 610 [(5, 0), (21, 0), (22, 69), (0, i)] [] σ n Q := by
  refine b_179_610 (d := 19) (h0 := bd hL h0 h8 hm hI.s 1 (by decide) (by decide)) (h1 := bd hL h0 h8 hm hI.s 2 (by decide) (by decide)) (h2 := by decide) (k := ?_)
  (try simp only [hI.s])
  refine (o_cancel σ n hI).mono (fun r τ n1 q => ?_)
  obtain ⟨v, rfl, hs, hE⟩ := q
  dsimp only [Option.toList_some, List.cons_append, List.nil_append, List.append_nil]
  refine b_179_624 (d := 19) (h0 := bd hL h0 h8 hm hs 1 (by decide) (by decide)) (h1 := bd hL h0 h8 hm hs 2 (by decide) (by decide)) (h2 := by decide) (k := ?_)
  (try simp only [hs])
  refine hE.mono (fun r2 τ2 n2 q2 => ?_)
  obtain ⟨rfl, hI2⟩ := q2
  dsimp only [Option.toList_some, List.cons_append, List.nil_append, List.append_nil]
  refine b_179_638 (ht := fun _ => ?_) (hf := fun c => absurd rfl c)
  exact b_179_1257 (k := nx _ _ hI2)
theorem c_teams {X : Int → Int} {i L : Int} (hL : X (-1) = L) (h0 : 0 ≤ i) (h8 : i + 8 ≤ L) (hm : L ≤ 4096) (hX : ∀ j, -2147483648 ≤ X j ∧ X j ≤ 2147483647) {Q : Pst} (nx : ∀ τ n, INV X τ n → EV 20 179 18 [(5, 0), (21, 0), (22, 69), (0, Zadd i 8)] [] τ n Q) {σ : Mem} {n : Nat} (hI : INV X σ n) : EV 20 179 643 [(5, 0), (21, 0), (22, 69), (0, i)] [] σ n Q := by
  refine b_179_643 (d := 19) (h0 := bd hL h0 h8 hm hI.s 1 (by decide) (by decide)) (h1 := by decide) (k := ?_)
  (try simp only [hI.s])
  refine (o_teams σ n hI).mono (fun r τ n1 q => ?_)
  obtain ⟨v, rfl, hs, hE⟩ := q
  dsimp only [Option.toList_some, List.cons_append, List.nil_append, List.append_nil]
  refine b_179_652 (d := 19) (h0 := bd hL h0 h8 hm hs 1 (by decide) (by decide)) (h1 := by decide) (k := ?_)
  (try simp only [hs])
  refine hE.mono (fun r2 τ2 n2 q2 => ?_)
  obtain ⟨rfl, hI2⟩ := q2
  dsimp only [Option.toList_some, List.cons_append, List.nil_append, List.append_nil]
  refine b_179_661 (ht := fun _ => ?_) (hf := fun c => absurd rfl c)
  exact b_179_1257 (k := nx _ _ hI2)
theorem c_team {X : Int → Int} {i L : Int} (hL : X (-1) = L) (h0 : 0 ≤ i) (h8 : i + 8 ≤ L) (hm : L ≤ 4096) (hX : ∀ j, -2147483648 ≤ X j ∧ X j ≤ 2147483647) {Q : Pst} (nx : ∀ τ n, INV X τ n → EV 20 179 18 [(5, 0), (21, 0), (22, 69), (0, Zadd i 8)] [] τ n Q) {σ : Mem} {n : Nat} (hI : INV X σ n) : EV 20 179 666 [(5, 0), (21, 0), (22, 69), (0, i)] [] σ n Q := by
  refine b_179_666 (d := 19) (h0 := bd hL h0 h8 hm hI.s 1 (by decide) (by decide)) (h1 := bd hL h0 h8 hm hI.s 2 (by decide) (by decide)) (h2 := bd hL h0 h8 hm hI.s 3 (by decide) (by decide)) (h3 := by decide) (k := ?_)
  (try simp only [hI.s])
  refine (o_team σ n hI).mono (fun r τ n1 q => ?_)
  obtain ⟨v, rfl, hs, hE⟩ := q
  dsimp only [Option.toList_some, List.cons_append, List.nil_append, List.append_nil]
  refine b_179_685 (d := 19) (h0 := bd hL h0 h8 hm hs 1 (by decide) (by decide)) (h1 := bd hL h0 h8 hm hs 2 (by decide) (by decide)) (h2 := bd hL h0 h8 hm hs 3 (by decide) (by decide)) (h3 := by decide) (k := ?_)
  (try simp only [hs])
  refine hE.mono (fun r2 τ2 n2 q2 => ?_)
  obtain ⟨rfl, hI2⟩ := q2
  dsimp only [Option.toList_some, List.cons_append, List.nil_append, List.append_nil]
  refine b_179_704 (ht := fun _ => ?_) (hf := fun c => absurd rfl c)
  exact b_179_1257 (k := nx _ _ hI2)
theorem c_plan {X : Int → Int} {i L : Int} (hL : X (-1) = L) (h0 : 0 ≤ i) (h8 : i + 8 ≤ L) (hm : L ≤ 4096) (hX : ∀ j, -2147483648 ≤ X j ∧ X j ≤ 2147483647) {Q : Pst} (nx : ∀ τ n, INV X τ n → EV 20 179 18 [(5, 0), (21, 0), (22, 69), (0, Zadd i 8)] [] τ n Q) {σ : Mem} {n : Nat} (hI : INV X σ n) : EV 20 179 709 [(5, 0), (21, 0), (22, 69), (0, i)] [] σ n Q := by
  refine b_179_709 (d := 20) (h0 := bd hL h0 h8 hm hI.s 1 (by decide) (by decide)) (h1 := bd hL h0 h8 hm hI.s 2 (by decide) (by decide)) (ht := fun cz => ?_) (hf := fun cz => ?_)
  · rw [hI.s] at cz
    refine b_179_727 (d := 19) (h0 := by decide) (k := ?_)
    (try simp only [hI.s])
    refine (o_plan (Or.inl rfl) σ n hI).mono (fun r τ n1 q => ?_)
    obtain ⟨v, rfl, hs, hE⟩ := q
    dsimp only [Option.toList_some, List.cons_append, List.nil_append, List.append_nil]
    refine b_179_731 (d := 20) (h0 := bd hL h0 h8 hm hs 1 (by decide) (by decide)) (h1 := bd hL h0 h8 hm hs 2 (by decide) (by decide)) (ht := fun _ => ?_) (hf := fun c => absurd (by rw [hs]; exact cz) c)
    refine b_179_749 (d := 19) (h0 := by decide) (k := ?_)
    (try simp only [hs])
    refine hE.mono (fun r2 τ2 n2 q2 => ?_)
    obtain ⟨rfl, hI2⟩ := q2
    dsimp only [Option.toList_some, List.cons_append, List.nil_append, List.append_nil]
    refine b_179_753 (ht := fun _ => ?_) (hf := fun c => absurd rfl c)
    exact b_179_1257 (k := nx _ _ hI2)
  · rw [hI.s] at cz
    refine b_179_723 (d := 19) (h0 := by decide) (k := ?_)
    (try simp only [hI.s])
    refine (o_plan (Or.inr rfl) σ n hI).mono (fun r τ n1 q => ?_)
    obtain ⟨v, rfl, hs, hE⟩ := q
    dsimp only [Option.toList_some, List.cons_append, List.nil_append, List.append_nil]
    refine b_179_731 (d := 20) (h0 := bd hL h0 h8 hm hs 1 (by decide) (by decide)) (h1 := bd hL h0 h8 hm hs 2 (by decide) (by decide)) (ht := fun c => absurd (by rw [hs] at c; exact c) cz) (hf := fun _ => ?_)
    refine b_179_745 (d := 19) (h0 := by decide) (k := ?_)
    (try simp only [hs])
    refine hE.mono (fun r2 τ2 n2 q2 => ?_)
    obtain ⟨rfl, hI2⟩ := q2
    dsimp only [Option.toList_some, List.cons_append, List.nil_append, List.append_nil]
    refine b_179_753 (ht := fun _ => ?_) (hf := fun c => absurd rfl c)
    exact b_179_1257 (k := nx _ _ hI2)
theorem c_planned {X : Int → Int} {i L : Int} (hL : X (-1) = L) (h0 : 0 ≤ i) (h8 : i + 8 ≤ L) (hm : L ≤ 4096) (hX : ∀ j, -2147483648 ≤ X j ∧ X j ≤ 2147483647) {Q : Pst} (nx : ∀ τ n, INV X τ n → EV 20 179 18 [(5, 0), (21, 0), (22, 69), (0, Zadd i 8)] [] τ n Q) {σ : Mem} {n : Nat} (hI : INV X σ n) : EV 20 179 758 [(5, 0), (21, 0), (22, 69), (0, i)] [] σ n Q := by
  refine b_179_758 (d := 19) (h0 := bd hL h0 h8 hm hI.s 1 (by decide) (by decide)) (h1 := by decide) (k := ?_)
  (try simp only [hI.s])
  refine (o_planned σ n hI).mono (fun r τ n1 q => ?_)
  obtain ⟨v, rfl, hs, hE⟩ := q
  dsimp only [Option.toList_some, List.cons_append, List.nil_append, List.append_nil]
  refine b_179_767 (d := 19) (h0 := bd hL h0 h8 hm hs 1 (by decide) (by decide)) (h1 := by decide) (k := ?_)
  (try simp only [hs])
  refine hE.mono (fun r2 τ2 n2 q2 => ?_)
  obtain ⟨rfl, hI2⟩ := q2
  dsimp only [Option.toList_some, List.cons_append, List.nil_append, List.append_nil]
  refine b_179_776 (ht := fun _ => ?_) (hf := fun c => absurd rfl c)
  exact b_179_1257 (k := nx _ _ hI2)
theorem c_seat {X : Int → Int} {i L : Int} (hL : X (-1) = L) (h0 : 0 ≤ i) (h8 : i + 8 ≤ L) (hm : L ≤ 4096) (hX : ∀ j, -2147483648 ≤ X j ∧ X j ≤ 2147483647) {Q : Pst} (nx : ∀ τ n, INV X τ n → EV 20 179 18 [(5, 0), (21, 0), (22, 69), (0, Zadd i 8)] [] τ n Q) {σ : Mem} {n : Nat} (hI : INV X σ n) : EV 20 179 781 [(5, 0), (21, 0), (22, 69), (0, i)] [] σ n Q := by
  refine b_179_781 (d := 19) (h0 := bd hL h0 h8 hm hI.s 1 (by decide) (by decide)) (h1 := bd hL h0 h8 hm hI.s 2 (by decide) (by decide)) (h2 := by decide) (k := ?_)
  (try simp only [hI.s])
  refine (o_seat σ n hI).mono (fun r τ n1 q => ?_)
  obtain ⟨v, rfl, hs, hE⟩ := q
  dsimp only [Option.toList_some, List.cons_append, List.nil_append, List.append_nil]
  refine b_179_795 (d := 19) (h0 := bd hL h0 h8 hm hs 1 (by decide) (by decide)) (h1 := bd hL h0 h8 hm hs 2 (by decide) (by decide)) (h2 := by decide) (k := ?_)
  (try simp only [hs])
  refine hE.mono (fun r2 τ2 n2 q2 => ?_)
  obtain ⟨rfl, hI2⟩ := q2
  dsimp only [Option.toList_some, List.cons_append, List.nil_append, List.append_nil]
  refine b_179_809 (ht := fun _ => ?_) (hf := fun c => absurd rfl c)
  exact b_179_1257 (k := nx _ _ hI2)
theorem c_turn {X : Int → Int} {i L : Int} (hL : X (-1) = L) (h0 : 0 ≤ i) (h8 : i + 8 ≤ L) (hm : L ≤ 4096) (hX : ∀ j, -2147483648 ≤ X j ∧ X j ≤ 2147483647) {Q : Pst} (nx : ∀ τ n, INV X τ n → EV 20 179 18 [(5, 0), (21, 0), (22, 69), (0, Zadd i 8)] [] τ n Q) {σ : Mem} {n : Nat} (hI : INV X σ n) : EV 20 179 814 [(5, 0), (21, 0), (22, 69), (0, i)] [] σ n Q := by
  refine b_179_814 (d := 19) (h0 := bd hL h0 h8 hm hI.s 1 (by decide) (by decide)) (h1 := bd hL h0 h8 hm hI.s 2 (by decide) (by decide)) (h2 := by decide) (k := ?_)
  (try simp only [hI.s])
  refine (o_turn σ n hI).mono (fun r τ n1 q => ?_)
  obtain ⟨v, rfl, hs, hE⟩ := q
  dsimp only [Option.toList_some, List.cons_append, List.nil_append, List.append_nil]
  refine b_179_828 (d := 19) (h0 := bd hL h0 h8 hm hs 1 (by decide) (by decide)) (h1 := bd hL h0 h8 hm hs 2 (by decide) (by decide)) (h2 := by decide) (k := ?_)
  (try simp only [hs])
  refine hE.mono (fun r2 τ2 n2 q2 => ?_)
  obtain ⟨rfl, hI2⟩ := q2
  dsimp only [Option.toList_some, List.cons_append, List.nil_append, List.append_nil]
  refine b_179_842 (ht := fun _ => ?_) (hf := fun c => absurd rfl c)
  exact b_179_1257 (k := nx _ _ hI2)
theorem c_journeys {X : Int → Int} {i L : Int} (hL : X (-1) = L) (h0 : 0 ≤ i) (h8 : i + 8 ≤ L) (hm : L ≤ 4096) (hX : ∀ j, -2147483648 ≤ X j ∧ X j ≤ 2147483647) {Q : Pst} (nx : ∀ τ n, INV X τ n → EV 20 179 18 [(5, 0), (21, 0), (22, 69), (0, Zadd i 8)] [] τ n Q) {σ : Mem} {n : Nat} (hI : INV X σ n) : EV 20 179 847 [(5, 0), (21, 0), (22, 69), (0, i)] [] σ n Q := by
  refine b_179_847 (d := 19) (h0 := bd hL h0 h8 hm hI.s 1 (by decide) (by decide)) (h1 := bd hL h0 h8 hm hI.s 2 (by decide) (by decide)) (h2 := by decide) (k := ?_)
  (try simp only [hI.s])
  refine (o_journeys σ n hI).mono (fun r τ n1 q => ?_)
  obtain ⟨v, rfl, hs, hE⟩ := q
  dsimp only [Option.toList_some, List.cons_append, List.nil_append, List.append_nil]
  refine b_179_861 (d := 19) (h0 := bd hL h0 h8 hm hs 1 (by decide) (by decide)) (h1 := bd hL h0 h8 hm hs 2 (by decide) (by decide)) (h2 := by decide) (k := ?_)
  (try simp only [hs])
  refine hE.mono (fun r2 τ2 n2 q2 => ?_)
  obtain ⟨rfl, hI2⟩ := q2
  dsimp only [Option.toList_some, List.cons_append, List.nil_append, List.append_nil]
  refine b_179_875 (ht := fun _ => ?_) (hf := fun c => absurd rfl c)
  exact b_179_1257 (k := nx _ _ hI2)
theorem c_feed {X : Int → Int} {i L : Int} (hL : X (-1) = L) (h0 : 0 ≤ i) (h8 : i + 8 ≤ L) (hm : L ≤ 4096) (hX : ∀ j, -2147483648 ≤ X j ∧ X j ≤ 2147483647) {Q : Pst} (nx : ∀ τ n, INV X τ n → EV 20 179 18 [(5, 0), (21, 0), (22, 69), (0, Zadd i 8)] [] τ n Q) {σ : Mem} {n : Nat} (hI : INV X σ n) : EV 20 179 880 [(5, 0), (21, 0), (22, 69), (0, i)] [] σ n Q := by
  refine b_179_880 (d := 19) (h0 := bd hL h0 h8 hm hI.s 1 (by decide) (by decide)) (h1 := bd hL h0 h8 hm hI.s 2 (by decide) (by decide)) (h2 := bd hL h0 h8 hm hI.s 3 (by decide) (by decide)) (h3 := bd hL h0 h8 hm hI.s 4 (by decide) (by decide)) (h4 := bd hL h0 h8 hm hI.s 5 (by decide) (by decide)) (h5 := by decide) (k := ?_)
  (try simp only [hI.s])
  refine (o_feed σ n hI).mono (fun r τ n1 q => ?_)
  obtain ⟨v, rfl, hs, hE⟩ := q
  dsimp only [Option.toList_some, List.cons_append, List.nil_append, List.append_nil]
  refine b_179_909 (d := 19) (h0 := bd hL h0 h8 hm hs 1 (by decide) (by decide)) (h1 := bd hL h0 h8 hm hs 2 (by decide) (by decide)) (h2 := bd hL h0 h8 hm hs 3 (by decide) (by decide)) (h3 := bd hL h0 h8 hm hs 4 (by decide) (by decide)) (h4 := bd hL h0 h8 hm hs 5 (by decide) (by decide)) (h5 := by decide) (k := ?_)
  (try simp only [hs])
  refine hE.mono (fun r2 τ2 n2 q2 => ?_)
  obtain ⟨rfl, hI2⟩ := q2
  dsimp only [Option.toList_some, List.cons_append, List.nil_append, List.append_nil]
  refine b_179_938 (ht := fun _ => ?_) (hf := fun c => absurd rfl c)
  exact b_179_1257 (k := nx _ _ hI2)
theorem c_end {X : Int → Int} {i L : Int} (hL : X (-1) = L) (h0 : 0 ≤ i) (h8 : i + 8 ≤ L) (hm : L ≤ 4096) (hX : ∀ j, -2147483648 ≤ X j ∧ X j ≤ 2147483647) {Q : Pst} (nx : ∀ τ n, INV X τ n → EV 20 179 18 [(5, 0), (21, 0), (22, 69), (0, Zadd i 8)] [] τ n Q) {σ : Mem} {n : Nat} (hI : INV X σ n) : EV 20 179 943 [(5, 0), (21, 0), (22, 69), (0, i)] [] σ n Q := by
  refine b_179_943 (d := 19) (h0 := bd hL h0 h8 hm hI.s 1 (by decide) (by decide)) (h1 := by decide) (k := ?_)
  (try simp only [hI.s])
  refine (o_end σ n hI).mono (fun r τ n1 q => ?_)
  obtain ⟨v, rfl, hs, hE⟩ := q
  dsimp only [Option.toList_some, List.cons_append, List.nil_append, List.append_nil]
  refine b_179_952 (d := 19) (h0 := bd hL h0 h8 hm hs 1 (by decide) (by decide)) (h1 := by decide) (k := ?_)
  (try simp only [hs])
  refine hE.mono (fun r2 τ2 n2 q2 => ?_)
  obtain ⟨rfl, hI2⟩ := q2
  dsimp only [Option.toList_some, List.cons_append, List.nil_append, List.append_nil]
  refine b_179_961 (ht := fun _ => ?_) (hf := fun c => absurd rfl c)
  exact b_179_1257 (k := nx _ _ hI2)
theorem c_fees {X : Int → Int} {i L : Int} (hL : X (-1) = L) (h0 : 0 ≤ i) (h8 : i + 8 ≤ L) (hm : L ≤ 4096) (hX : ∀ j, -2147483648 ≤ X j ∧ X j ≤ 2147483647) {Q : Pst} (nx : ∀ τ n, INV X τ n → EV 20 179 18 [(5, 0), (21, 0), (22, 69), (0, Zadd i 8)] [] τ n Q) {σ : Mem} {n : Nat} (hI : INV X σ n) : EV 20 179 966 [(5, 0), (21, 0), (22, 69), (0, i)] [] σ n Q := by
  refine b_179_966 (d := 19) (h0 := by decide) (k := ?_)
  (try simp only [hI.s])
  refine (o_fees σ n hI).mono (fun r τ n1 q => ?_)
  obtain ⟨v, rfl, hs, hE⟩ := q
  dsimp only [Option.toList_some, List.cons_append, List.nil_append, List.append_nil]
  refine b_179_970 (d := 19) (h0 := by decide) (k := ?_)
  (try simp only [hs])
  refine hE.mono (fun r2 τ2 n2 q2 => ?_)
  obtain ⟨rfl, hI2⟩ := q2
  dsimp only [Option.toList_some, List.cons_append, List.nil_append, List.append_nil]
  refine b_179_974 (ht := fun _ => ?_) (hf := fun c => absurd rfl c)
  exact b_179_1257 (k := nx _ _ hI2)
theorem c_tells {X : Int → Int} {i L : Int} (hL : X (-1) = L) (h0 : 0 ≤ i) (h8 : i + 8 ≤ L) (hm : L ≤ 4096) (hX : ∀ j, -2147483648 ≤ X j ∧ X j ≤ 2147483647) {Q : Pst} (nx : ∀ τ n, INV X τ n → EV 20 179 18 [(5, 0), (21, 0), (22, 69), (0, Zadd i 8)] [] τ n Q) {σ : Mem} {n : Nat} (hI : INV X σ n) : EV 20 179 979 [(5, 0), (21, 0), (22, 69), (0, i)] [] σ n Q := by
  refine b_179_979 (d := 19) (h0 := bd hL h0 h8 hm hI.s 1 (by decide) (by decide)) (h1 := bd hL h0 h8 hm hI.s 2 (by decide) (by decide)) (h2 := by decide) (k := ?_)
  (try simp only [hI.s])
  refine (o_tells σ n hI).mono (fun r τ n1 q => ?_)
  obtain ⟨v, rfl, hs, hE⟩ := q
  dsimp only [Option.toList_some, List.cons_append, List.nil_append, List.append_nil]
  refine b_179_993 (d := 19) (h0 := bd hL h0 h8 hm hs 1 (by decide) (by decide)) (h1 := bd hL h0 h8 hm hs 2 (by decide) (by decide)) (h2 := by decide) (k := ?_)
  (try simp only [hs])
  refine hE.mono (fun r2 τ2 n2 q2 => ?_)
  obtain ⟨rfl, hI2⟩ := q2
  dsimp only [Option.toList_some, List.cons_append, List.nil_append, List.append_nil]
  refine b_179_1007 (ht := fun _ => ?_) (hf := fun c => absurd rfl c)
  exact b_179_1257 (k := nx _ _ hI2)
theorem c_fee {X : Int → Int} {i L : Int} (hL : X (-1) = L) (h0 : 0 ≤ i) (h8 : i + 8 ≤ L) (hm : L ≤ 4096) (hX : ∀ j, -2147483648 ≤ X j ∧ X j ≤ 2147483647) {Q : Pst} (nx : ∀ τ n, INV X τ n → EV 20 179 18 [(5, 0), (21, 0), (22, 69), (0, Zadd i 8)] [] τ n Q) {σ : Mem} {n : Nat} (hI : INV X σ n) : EV 20 179 1012 [(5, 0), (21, 0), (22, 69), (0, i)] [] σ n Q := by
  refine b_179_1012 (d := 19) (h0 := bd hL h0 h8 hm hI.s 1 (by decide) (by decide)) (h1 := bd hL h0 h8 hm hI.s 2 (by decide) (by decide)) (h2 := by decide) (k := ?_)
  (try simp only [hI.s])
  refine (o_fee σ n hI).mono (fun r τ n1 q => ?_)
  obtain ⟨v, rfl, hs, hE⟩ := q
  dsimp only [Option.toList_some, List.cons_append, List.nil_append, List.append_nil]
  refine b_179_1026 (d := 19) (h0 := bd hL h0 h8 hm hs 1 (by decide) (by decide)) (h1 := bd hL h0 h8 hm hs 2 (by decide) (by decide)) (h2 := by decide) (k := ?_)
  (try simp only [hs])
  refine hE.mono (fun r2 τ2 n2 q2 => ?_)
  obtain ⟨rfl, hI2⟩ := q2
  dsimp only [Option.toList_some, List.cons_append, List.nil_append, List.append_nil]
  refine b_179_1040 (ht := fun _ => ?_) (hf := fun c => absurd (Zlcmp_same _) c)
  exact b_179_1257 (k := nx _ _ hI2)
theorem c_ask {X : Int → Int} {i L : Int} (hL : X (-1) = L) (h0 : 0 ≤ i) (h8 : i + 8 ≤ L) (hm : L ≤ 4096) (hX : ∀ j, -2147483648 ≤ X j ∧ X j ≤ 2147483647) {Q : Pst} (nx : ∀ τ n, INV X τ n → EV 20 179 18 [(5, 0), (21, 0), (22, 69), (0, Zadd i 8)] [] τ n Q) {σ : Mem} {n : Nat} (hI : INV X σ n) : EV 20 179 1046 [(5, 0), (21, 0), (22, 69), (0, i)] [] σ n Q := by
  refine b_179_1046 (d := 19) (h0 := bd hL h0 h8 hm hI.s 1 (by decide) (by decide)) (h1 := bd hL h0 h8 hm hI.s 2 (by decide) (by decide)) (h2 := bd hL h0 h8 hm hI.s 3 (by decide) (by decide)) (h3 := by decide) (k := ?_)
  (try simp only [hI.s])
  refine (o_ask σ n hI).mono (fun r τ n1 q => ?_)
  obtain ⟨v, rfl, hs, hE⟩ := q
  dsimp only [Option.toList_some, List.cons_append, List.nil_append, List.append_nil]
  refine b_179_1065 (d := 19) (h0 := bd hL h0 h8 hm hs 1 (by decide) (by decide)) (h1 := bd hL h0 h8 hm hs 2 (by decide) (by decide)) (h2 := bd hL h0 h8 hm hs 3 (by decide) (by decide)) (h3 := by decide) (k := ?_)
  (try simp only [hs])
  refine hE.mono (fun r2 τ2 n2 q2 => ?_)
  obtain ⟨rfl, hI2⟩ := q2
  dsimp only [Option.toList_some, List.cons_append, List.nil_append, List.append_nil]
  refine b_179_1084 (ht := fun _ => ?_) (hf := fun c => absurd rfl c)
  exact b_179_1257 (k := nx _ _ hI2)
theorem c_answer {X : Int → Int} {i L : Int} (hL : X (-1) = L) (h0 : 0 ≤ i) (h8 : i + 8 ≤ L) (hm : L ≤ 4096) (hX : ∀ j, -2147483648 ≤ X j ∧ X j ≤ 2147483647) {Q : Pst} (nx : ∀ τ n, INV X τ n → EV 20 179 18 [(5, 0), (21, 0), (22, 69), (0, Zadd i 8)] [] τ n Q) {σ : Mem} {n : Nat} (hI : INV X σ n) : EV 20 179 1089 [(5, 0), (21, 0), (22, 69), (0, i)] [] σ n Q := by
  refine b_179_1089 (d := 20) (h0 := bd hL h0 h8 hm hI.s 1 (by decide) (by decide)) (h1 := bd hL h0 h8 hm hI.s 2 (by decide) (by decide)) (h2 := bd hL h0 h8 hm hI.s 3 (by decide) (by decide)) (ht := fun cz => ?_) (hf := fun cz => ?_)
  · rw [hI.s] at cz
    refine b_179_1112 (d := 19) (h0 := bd hL h0 h8 hm hI.s 4 (by decide) (by decide)) (h1 := by decide) (k := ?_)
    (try simp only [hI.s])
    refine (o_answer (Or.inl rfl) σ n hI).mono (fun r τ n1 q => ?_)
    obtain ⟨v, rfl, hs, hE⟩ := q
    dsimp only [Option.toList_some, List.cons_append, List.nil_append, List.append_nil]
    refine b_179_1121 (d := 20) (h0 := bd hL h0 h8 hm hs 1 (by decide) (by decide)) (h1 := bd hL h0 h8 hm hs 2 (by decide) (by decide)) (h2 := bd hL h0 h8 hm hs 3 (by decide) (by decide)) (ht := fun _ => ?_) (hf := fun c => absurd (by rw [hs]; exact cz) c)
    refine b_179_1144 (d := 19) (h0 := bd hL h0 h8 hm hs 4 (by decide) (by decide)) (h1 := by decide) (k := ?_)
    (try simp only [hs])
    refine hE.mono (fun r2 τ2 n2 q2 => ?_)
    obtain ⟨rfl, hI2⟩ := q2
    dsimp only [Option.toList_some, List.cons_append, List.nil_append, List.append_nil]
    refine b_179_1153 (ht := fun _ => ?_) (hf := fun c => absurd rfl c)
    exact b_179_1257 (k := nx _ _ hI2)
  · rw [hI.s] at cz
    refine b_179_1108 (d := 19) (h0 := bd hL h0 h8 hm hI.s 4 (by decide) (by decide)) (h1 := by decide) (k := ?_)
    (try simp only [hI.s])
    refine (o_answer (Or.inr rfl) σ n hI).mono (fun r τ n1 q => ?_)
    obtain ⟨v, rfl, hs, hE⟩ := q
    dsimp only [Option.toList_some, List.cons_append, List.nil_append, List.append_nil]
    refine b_179_1121 (d := 20) (h0 := bd hL h0 h8 hm hs 1 (by decide) (by decide)) (h1 := bd hL h0 h8 hm hs 2 (by decide) (by decide)) (h2 := bd hL h0 h8 hm hs 3 (by decide) (by decide)) (ht := fun c => absurd (by rw [hs] at c; exact c) cz) (hf := fun _ => ?_)
    refine b_179_1140 (d := 19) (h0 := bd hL h0 h8 hm hs 4 (by decide) (by decide)) (h1 := by decide) (k := ?_)
    (try simp only [hs])
    refine hE.mono (fun r2 τ2 n2 q2 => ?_)
    obtain ⟨rfl, hI2⟩ := q2
    dsimp only [Option.toList_some, List.cons_append, List.nil_append, List.append_nil]
    refine b_179_1153 (ht := fun _ => ?_) (hf := fun c => absurd rfl c)
    exact b_179_1257 (k := nx _ _ hI2)
theorem c_known {X : Int → Int} {i L : Int} (hL : X (-1) = L) (h0 : 0 ≤ i) (h8 : i + 8 ≤ L) (hm : L ≤ 4096) (hX : ∀ j, -2147483648 ≤ X j ∧ X j ≤ 2147483647) {Q : Pst} (nx : ∀ τ n, INV X τ n → EV 20 179 18 [(5, 0), (21, 0), (22, 69), (0, Zadd i 8)] [] τ n Q) {σ : Mem} {n : Nat} (hI : INV X σ n) : EV 20 179 1158 [(5, 0), (21, 0), (22, 69), (0, i)] [] σ n Q := by
  refine b_179_1158 (d := 19) (h0 := bd hL h0 h8 hm hI.s 1 (by decide) (by decide)) (h1 := bd hL h0 h8 hm hI.s 2 (by decide) (by decide)) (h2 := bd hL h0 h8 hm hI.s 3 (by decide) (by decide)) (h3 := by decide) (k := ?_)
  (try simp only [hI.s])
  refine (o_known σ n hI).mono (fun r τ n1 q => ?_)
  obtain ⟨v, rfl, hs, hE⟩ := q
  dsimp only [Option.toList_some, List.cons_append, List.nil_append, List.append_nil]
  refine b_179_1177 (d := 19) (h0 := bd hL h0 h8 hm hs 1 (by decide) (by decide)) (h1 := bd hL h0 h8 hm hs 2 (by decide) (by decide)) (h2 := bd hL h0 h8 hm hs 3 (by decide) (by decide)) (h3 := by decide) (k := ?_)
  (try simp only [hs])
  refine hE.mono (fun r2 τ2 n2 q2 => ?_)
  obtain ⟨rfl, hI2⟩ := q2
  dsimp only [Option.toList_some, List.cons_append, List.nil_append, List.append_nil]
  refine b_179_1196 (ht := fun _ => ?_) (hf := fun c => absurd rfl c)
  exact b_179_1257 (k := nx _ _ hI2)
theorem c_refusals {X : Int → Int} {i L : Int} (hL : X (-1) = L) (h0 : 0 ≤ i) (h8 : i + 8 ≤ L) (hm : L ≤ 4096) (hX : ∀ j, -2147483648 ≤ X j ∧ X j ≤ 2147483647) {Q : Pst} (nx : ∀ τ n, INV X τ n → EV 20 179 18 [(5, 0), (21, 0), (22, 69), (0, Zadd i 8)] [] τ n Q) {σ : Mem} {n : Nat} (hI : INV X σ n) : EV 20 179 1201 [(5, 0), (21, 0), (22, 69), (0, i)] [] σ n Q := by
  refine b_179_1201 (d := 19) (h0 := bd hL h0 h8 hm hI.s 1 (by decide) (by decide)) (h1 := bd hL h0 h8 hm hI.s 2 (by decide) (by decide)) (h2 := by decide) (k := ?_)
  (try simp only [hI.s])
  refine (o_refusals σ n hI).mono (fun r τ n1 q => ?_)
  obtain ⟨v, rfl, hs, hE⟩ := q
  dsimp only [Option.toList_some, List.cons_append, List.nil_append, List.append_nil]
  refine b_179_1215 (d := 19) (h0 := bd hL h0 h8 hm hs 1 (by decide) (by decide)) (h1 := bd hL h0 h8 hm hs 2 (by decide) (by decide)) (h2 := by decide) (k := ?_)
  (try simp only [hs])
  refine hE.mono (fun r2 τ2 n2 q2 => ?_)
  obtain ⟨rfl, hI2⟩ := q2
  dsimp only [Option.toList_some, List.cons_append, List.nil_append, List.append_nil]
  refine b_179_1229 (ht := fun _ => ?_) (hf := fun c => absurd rfl c)
  exact b_179_1257 (k := nx _ _ hI2)
theorem c_count {X : Int → Int} {i L : Int} (hL : X (-1) = L) (h0 : 0 ≤ i) (h8 : i + 8 ≤ L) (hm : L ≤ 4096) (hX : ∀ j, -2147483648 ≤ X j ∧ X j ≤ 2147483647) {Q : Pst} (nx : ∀ τ n, INV X τ n → EV 20 179 18 [(5, 0), (21, 0), (22, 69), (0, Zadd i 8)] [] τ n Q) {σ : Mem} {n : Nat} (hI : INV X σ n) : EV 20 179 1234 [(5, 0), (21, 0), (22, 69), (0, i)] [] σ n Q := by
  refine b_179_1234 (d := 19) (h0 := bd hL h0 h8 hm hI.s 1 (by decide) (by decide)) (h1 := by decide) (k := ?_)
  (try simp only [hI.s])
  refine (o_count σ n hI).mono (fun r τ n1 q => ?_)
  obtain ⟨v, rfl, hs, hE⟩ := q
  dsimp only [Option.toList_some, List.cons_append, List.nil_append, List.append_nil]
  refine b_179_1243 (d := 19) (h0 := bd hL h0 h8 hm hs 1 (by decide) (by decide)) (h1 := by decide) (k := ?_)
  (try simp only [hs])
  refine hE.mono (fun r2 τ2 n2 q2 => ?_)
  obtain ⟨rfl, hI2⟩ := q2
  dsimp only [Option.toList_some, List.cons_append, List.nil_append, List.append_nil]
  refine b_179_1252 (ht := fun _ => ?_) (hf := fun c => absurd rfl c)
  exact b_179_1257 (k := nx _ _ hI2)
theorem law_loop {X : Int → Int} {L : Int} (hL : X (-1) = L) (hm : 0 ≤ L ∧ L ≤ 4096) (hX : ∀ j, -2147483648 ≤ X j ∧ X j ≤ 2147483647) : ∀ (f : Nat) (i : Int) (σ : Mem) (n : Nat), 0 ≤ i → i ≤ 5000 → L + 8 - i < f → INV X σ n → EV 20 179 18 [(5, 0), (21, 0), (22, 69), (0, i)] [] σ n (fun r _ _ => r = some (0, 1)) := by
  intro f
  induction f with
  | zero =>
    intro i σ n h0 h5 hf hI
    refine b_179_18 (ht := fun _ => ?_) (hf := fun c => ?_)
    · exact b_179_1263 (k := rfl)
    · rw [hI.s, hL, Zsub_eq (by omega) (by omega)] at c
      exfalso; omega
  | succ f ih =>
    intro i σ n h0 h5 hf hI
    refine b_179_18 (ht := fun _ => ?_) (hf := fun c => ?_)
    · exact b_179_1263 (k := rfl)
    · rw [hI.s, hL, Zsub_eq (by omega) (by omega)] at c
      have h8 : i + 8 ≤ L := by omega
      have nx : ∀ τ n, INV X τ n → EV 20 179 18 [(5, 0), (21, 0), (22, 69), (0, Zadd i 8)] [] τ n (fun r _ _ => r = some (0, 1)) := fun τ n hI2 => by
        rw [Zadd_eq (by omega) (by omega)]
        exact ih (i + 8) τ n (by omega) (by omega) (by omega) hI2
      refine b_179_27 (h0 := by rw [hI.s, hL]; omega) (k := ?_)
      rw [hI.s]
      generalize Zand (X i) 31 = z
      by_cases z0 : z = 0
      · rw [z0]; exact c_way hL h0 h8 hm.2 hX nx hI
      by_cases z1 : z = 1
      · rw [z1]; exact c_dialect hL h0 h8 hm.2 hX nx hI
      by_cases z2 : z = 2
      · rw [z2]; exact c_person hL h0 h8 hm.2 hX nx hI
      by_cases z3 : z = 3
      · rw [z3]; exact c_paper hL h0 h8 hm.2 hX nx hI
      by_cases z4 : z = 4
      · rw [z4]; exact c_withdraw hL h0 h8 hm.2 hX nx hI
      by_cases z5 : z = 5
      · rw [z5]; exact c_grade hL h0 h8 hm.2 hX nx hI
      by_cases z6 : z = 6
      · rw [z6]; exact c_bar hL h0 h8 hm.2 hX nx hI
      by_cases z7 : z = 7
      · rw [z7]; exact c_rest hL h0 h8 hm.2 hX nx hI
      by_cases z8 : z = 8
      · rw [z8]; exact c_hearing hL h0 h8 hm.2 hX nx hI
      by_cases z9 : z = 9
      · rw [z9]; exact c_move hL h0 h8 hm.2 hX nx hI
      by_cases z10 : z = 10
      · rw [z10]; exact c_cancel hL h0 h8 hm.2 hX nx hI
      by_cases z11 : z = 11
      · rw [z11]; exact c_teams hL h0 h8 hm.2 hX nx hI
      by_cases z12 : z = 12
      · rw [z12]; exact c_team hL h0 h8 hm.2 hX nx hI
      by_cases z13 : z = 13
      · rw [z13]; exact c_plan hL h0 h8 hm.2 hX nx hI
      by_cases z14 : z = 14
      · rw [z14]; exact c_planned hL h0 h8 hm.2 hX nx hI
      by_cases z15 : z = 15
      · rw [z15]; exact c_seat hL h0 h8 hm.2 hX nx hI
      by_cases z16 : z = 16
      · rw [z16]; exact c_turn hL h0 h8 hm.2 hX nx hI
      by_cases z17 : z = 17
      · rw [z17]; exact c_journeys hL h0 h8 hm.2 hX nx hI
      by_cases z18 : z = 18
      · rw [z18]; exact c_feed hL h0 h8 hm.2 hX nx hI
      by_cases z19 : z = 19
      · rw [z19]; exact c_end hL h0 h8 hm.2 hX nx hI
      by_cases z20 : z = 20
      · rw [z20]; exact c_fees hL h0 h8 hm.2 hX nx hI
      by_cases z21 : z = 21
      · rw [z21]; exact c_tells hL h0 h8 hm.2 hX nx hI
      by_cases z22 : z = 22
      · rw [z22]; exact c_fee hL h0 h8 hm.2 hX nx hI
      by_cases z23 : z = 23
      · rw [z23]; exact c_ask hL h0 h8 hm.2 hX nx hI
      by_cases z24 : z = 24
      · rw [z24]; exact c_answer hL h0 h8 hm.2 hX nx hI
      by_cases z25 : z = 25
      · rw [z25]; exact c_known hL h0 h8 hm.2 hX nx hI
      by_cases z26 : z = 26
      · rw [z26]; exact c_refusals hL h0 h8 hm.2 hX nx hI
      by_cases z27 : z = 27
      · rw [z27]; exact c_count hL h0 h8 hm.2 hX nx hI
      have e : (([(0, 160), (1, 203), (2, 236), (3, 259), (4, 322), (5, 355), (6, 398), (7, 457), (8, 480), (9, 567), (10, 610), (11, 643), (12, 666), (13, 709), (14, 758), (15, 781), (16, 814), (17, 847), (18, 880), (19, 943), (20, 966), (21, 979), (22, 1012), (23, 1046), (24, 1089), (25, 1158), (26, 1201), (27, 1234)] : List (Int × Nat)).lookup z).getD 1257 = 1257 := by
        rw [lk_ne z0, lk_ne z1, lk_ne z2, lk_ne z3, lk_ne z4, lk_ne z5, lk_ne z6, lk_ne z7, lk_ne z8, lk_ne z9, lk_ne z10, lk_ne z11, lk_ne z12, lk_ne z13, lk_ne z14, lk_ne z15, lk_ne z16, lk_ne z17, lk_ne z18, lk_ne z19, lk_ne z20, lk_ne z21, lk_ne z22, lk_ne z23, lk_ne z24, lk_ne z25, lk_ne z26, lk_ne z27]; rfl
      rw [e]
      exact b_179_1257 (k := nx _ _ hI)
