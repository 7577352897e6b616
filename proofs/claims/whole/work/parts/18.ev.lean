/-! runs of the small machine, by rules -/
theorem run_mono : ∀ (f g d m pc : Nat) (L st : List AV) (σ : Mem) (n : Nat) (o : Out), f ≤ g → runM S0 M0 f d m pc L st σ n = some o → runM S0 M0 g d m pc L st σ n = some o := by
  intro f
  induction f with
  | zero => intro g d m pc L st σ n o _ h; cases h
  | succ f ih =>
    intro g d m pc L st σ n o hg h
    obtain ⟨g, rfl⟩ : ∃ k, g = k + 1 := ⟨g - 1, by omega⟩
    have hg : f ≤ g := by omega
    obtain ⟨op, nx, a, b, v, ts, hi, hcase⟩ := run_cases h
    have hM : M0.2.2 m pc = insF m pc := rfl
    rcases hcase with ⟨rfl, c1, c2, c3, d', r1, σ1, n1, rfl, h1, h2⟩ | ⟨h36, r1, hr, ho⟩ | ⟨h36, pc', L', st', σ1, n1, hs, h2⟩
    · have q1 := ih g _ _ _ _ _ _ _ _ hg h1
      have q2 := ih g _ _ _ _ _ _ _ _ hg h2
      rw [runM, hM, hi]
      simp only [if_true]
      rw [if_pos ⟨c1, c2, c3⟩]
      show (match runM S0 M0 g d' a 0 (entM (mlF a) (st.take b).reverse) [] σ n with
        | none => none
        | some (r, σ1, n1) => runM S0 M0 g (d' + 1) m nx L (r.toList ++ st.drop b) σ1 n1) = some o
      rw [q1]
      exact q2
    · rw [runM, hM, hi]
      simp only
      rw [if_neg h36, hr, ho]
    · rw [runM, hM, hi]
      simp only
      have hr : retM op st = none := by
        cases hq : retM op st with
        | none => rfl
        | some x =>
          exfalso
          unfold retM at hq
          split at hq
          all_goals first
            | (simp only [stpM] at hs; cases hs; done)
            | (cases hq; done)
      rw [if_neg h36, hr, hs]
      exact ih g _ _ _ _ _ _ _ _ hg h2
abbrev Pst : Type := Option AV → Mem → Nat → Prop
def EV (d m pc : Nat) (L st : List AV) (σ : Mem) (n : Nat) (Q : Pst) : Prop := ∃ f r σ' n', runM S0 M0 f d m pc L st σ n = some (r, σ', n') ∧ Q r σ' n'
def EVM (d y : Nat) (as : List AV) (σ : Mem) (n : Nat) (Q : Pst) : Prop := EV d y 0 (entM (mlF y) as) [] σ n Q
section EVR
variable {d m pc nx a b : Nat} {v : Int} {ts : List (Int × Nat)} {L st : List AV} {σ : Mem} {n : Nat} {Q : Pst}
theorem ev_ret {op : Nat} {r : Option AV} (hi : insF m pc = (op, nx, a, b, v, ts)) (h36 : ¬ op = 36) (hr : retM op st = some r) (h : Q r σ n) : EV d m pc L st σ n Q := by
  refine ⟨1, r, σ, n, ?_, h⟩
  have hM : M0.2.2 m pc = insF m pc := rfl
  rw [runM, hM, hi]
  simp only
  rw [if_neg h36, hr]
theorem ev_stp {op : Nat} {pc' : Nat} {L' st' : List AV} {σ' : Mem} {n' : Nat} (hi : insF m pc = (op, nx, a, b, v, ts)) (h36 : ¬ op = 36) (hr : retM op st = none) (hs : stpM S0 op nx a b v ts L st σ n = some (pc', L', st', σ', n')) (h : EV d m pc' L' st' σ' n' Q) : EV d m pc L st σ n Q := by
  obtain ⟨f, r, σ1, n1, h1, h2⟩ := h
  refine ⟨f + 1, r, σ1, n1, ?_, h2⟩
  have hM : M0.2.2 m pc = insF m pc := rfl
  rw [runM, hM, hi]
  simp only
  rw [if_neg h36, hr, hs]
  exact h1
theorem ev_call (hi : insF m pc = (36, nx, a, b, v, ts)) (hb : b ≤ st.length ∧ ((st.drop b).map catM).sum ≤ 8 ∧ argM v.toNat (moF a) (mlF a) (st.take b).reverse = true) (h : EVM d a (st.take b).reverse σ n (fun r σ1 n1 => EV (d + 1) m nx L (r.toList ++ st.drop b) σ1 n1 Q)) : EV (d + 1) m pc L st σ n Q := by
  obtain ⟨f, r, σ1, n1, h1, g, r2, σ2, n2, h2, h3⟩ := h
  refine ⟨f + g + 1, r2, σ2, n2, ?_, h3⟩
  have hM : M0.2.2 m pc = insF m pc := rfl
  have q1 := run_mono f (f + g) _ _ _ _ _ _ _ _ (by omega) h1
  have q2 := run_mono g (f + g) _ _ _ _ _ _ _ _ (by omega) h2
  rw [runM, hM, hi]
  simp only [if_true]
  refine Eq.trans (if_pos hb) ?_
  show (match runM S0 M0 (f + g) d a 0 (entM (mlF a) (st.take b).reverse) [] σ n with
    | none => none
    | some (r, σ1, n1) => runM S0 M0 (f + g) (d + 1) m nx L (r.toList ++ st.drop b) σ1 n1) = some (r2, σ2, n2)
  rw [q1]
  exact q2
theorem EV.imp {Q2 : Pst} (h : EV d m pc L st σ n Q) (hQ : ∀ r σ' n', Q r σ' n' → Q2 r σ' n') : EV d m pc L st σ n Q2 := by
  obtain ⟨f, r, σ1, n1, h1, h2⟩ := h
  exact ⟨f, r, σ1, n1, h1, hQ _ _ _ h2⟩
theorem EVM.imp {y : Nat} {as : List AV} {Q2 : Pst} (h : EVM d y as σ n Q) (hQ : ∀ r σ' n', Q r σ' n' → Q2 r σ' n') : EVM d y as σ n Q2 := EV.imp h hQ
theorem e_const (hi : insF m pc = (0, nx, a, b, v, ts)) (h : EV d m nx L ((0, v) :: st) σ n Q) : EV d m pc L st σ n Q := ev_stp hi (by decide) rfl rfl h
theorem e_lconst (hi : insF m pc = (1, nx, a, b, v, ts)) (h : EV d m nx L ((2, v) :: st) σ n Q) : EV d m pc L st σ n Q := ev_stp hi (by decide) rfl rfl h
theorem e_null (hi : insF m pc = (2, nx, a, b, v, ts)) (h : EV d m nx L ((b, -1) :: st) σ n Q) : EV d m pc L st σ n Q := ev_stp hi (by decide) rfl rfl h
theorem e_load {x : AV} (hi : insF m pc = (3, nx, a, b, v, ts)) (hL : L[a]? = some x) (hk : kdM x.1 = b) (h : EV d m nx L (x :: st) σ n Q) : EV d m pc L st σ n Q := ev_stp hi (by decide) rfl (by simp only [stpM, hL]; rw [if_pos hk]) h
theorem e_store {x : AV} {L' : List AV} (hi : insF m pc = (4, nx, a, b, v, ts)) (hk : kdM x.1 = b ∧ a + b < L.length + 1 ∧ (v = 0 ∨ noLM L a = true)) (hL : stoM L a x = L') (h : EV d m nx L' st σ n Q) : EV d m pc L (x :: st) σ n Q := ev_stp hi (by decide) rfl (by simp only [stpM]; rw [if_pos hk, hL]) h
theorem e_iinc {x : Int} {L' : List AV} (hi : insF m pc = (5, nx, a, b, v, ts)) (hL : L[a]? = some (0, x)) (hk : b = 0 ∨ noLM L a = true) (hL' : L.set a (0, Zadd x v) = L') (h : EV d m nx L' st σ n Q) : EV d m pc L st σ n Q := ev_stp hi (by decide) rfl (by simp only [stpM, hL]; rw [if_pos ⟨trivial, hk⟩, hL']) h
theorem e_bin {x y z : Int} (hi : insF m pc = (6, nx, a, b, v, ts)) (hz : binM b x y = some z) (h : EV d m nx L ((0, z) :: st) σ n Q) : EV d m pc L ((0, y) :: (0, x) :: st) σ n Q := ev_stp hi (by decide) rfl (by simp only [stpM, hz]) h
theorem e_lbin {x y z : Int} (hi : insF m pc = (7, nx, a, b, v, ts)) (hz : lbinM b x y = some z) (h : EV d m nx L ((2, z) :: st) σ n Q) : EV d m pc L ((2, y) :: (2, x) :: st) σ n Q := ev_stp hi (by decide) rfl (by simp only [stpM, hz]) h
theorem e_i2l {x : Int} (hi : insF m pc = (8, nx, a, b, v, ts)) (h : EV d m nx L ((2, x) :: st) σ n Q) : EV d m pc L ((0, x) :: st) σ n Q := ev_stp hi (by decide) rfl rfl h
theorem e_i2b {x : Int} (hi : insF m pc = (9, nx, a, b, v, ts)) (h : EV d m nx L ((0, Zi2b x) :: st) σ n Q) : EV d m pc L ((0, x) :: st) σ n Q := ev_stp hi (by decide) rfl rfl h
theorem e_lcmp {x y : Int} (hi : insF m pc = (10, nx, a, b, v, ts)) (h : EV d m nx L ((0, Zlcmp x y) :: st) σ n Q) : EV d m pc L ((2, y) :: (2, x) :: st) σ n Q := ev_stp hi (by decide) rfl rfl h
theorem e_dup {x : AV} (hi : insF m pc = (11, nx, a, b, v, ts)) (hk : ¬ x.1 = 2) (h : EV d m nx L (x :: x :: st) σ n Q) : EV d m pc L (x :: st) σ n Q := ev_stp hi (by decide) rfl (by simp only [stpM]; rw [if_neg hk]) h
theorem e_dup2 {x y : AV} (hi : insF m pc = (12, nx, a, b, v, ts)) (hk : ¬ (x.1 = 2 ∨ y.1 = 2)) (h : EV d m nx L (x :: y :: x :: y :: st) σ n Q) : EV d m pc L (x :: y :: st) σ n Q := ev_stp hi (by decide) rfl (by simp only [stpM]; rw [if_neg hk]) h
theorem e_ifp {c : Prop} {x : Int} (hi : insF m pc = (13, nx, a, b, v, ts)) (hc : cmpM b x 0 = true ↔ c) (ht : c → EV d m a L st σ n Q) (hf : ¬ c → EV d m nx L st σ n Q) : EV d m pc L ((0, x) :: st) σ n Q := by
  refine ev_stp hi (by decide) rfl rfl ?_
  by_cases h : c
  · rw [if_pos (hc.mpr h)]; exact ht h
  · rw [if_neg (fun q => h (hc.mp q))]; exact hf h
theorem e_icp {c : Prop} {x y : Int} (hi : insF m pc = (14, nx, a, b, v, ts)) (hc : cmpM b x y = true ↔ c) (ht : c → EV d m a L st σ n Q) (hf : ¬ c → EV d m nx L st σ n Q) : EV d m pc L ((0, y) :: (0, x) :: st) σ n Q := by
  refine ev_stp hi (by decide) rfl rfl ?_
  by_cases h : c
  · rw [if_pos (hc.mpr h)]; exact ht h
  · rw [if_neg (fun q => h (hc.mp q))]; exact hf h
theorem c0 {x y : Int} : cmpM 0 x y = true ↔ x = y := decide_eq_true_iff
theorem c1 {x y : Int} : cmpM 1 x y = true ↔ ¬ x = y := decide_eq_true_iff
theorem c2 {x y : Int} : cmpM 2 x y = true ↔ x < y := decide_eq_true_iff
theorem c3 {x y : Int} : cmpM 3 x y = true ↔ y ≤ x := decide_eq_true_iff
theorem c4 {x y : Int} : cmpM 4 x y = true ↔ y < x := decide_eq_true_iff
theorem c5 {x y : Int} : cmpM 5 x y = true ↔ x ≤ y := decide_eq_true_iff
theorem e_ifnull {t : Nat} {x : Int} (hi : insF m pc = (15, nx, a, b, v, ts)) (hk : 10 ≤ t) (ht : x < 0 → EV d m a L st σ n Q) (hf : ¬ x < 0 → EV d m nx L st σ n Q) : EV d m pc L ((t, x) :: st) σ n Q := by
  refine ev_stp hi (by decide) rfl (by simp only [stpM]; rw [if_pos hk]) ?_
  by_cases h : x < 0
  · rw [if_pos h]; exact ht h
  · rw [if_neg h]; exact hf h
theorem e_ifnonnull {t : Nat} {x : Int} (hi : insF m pc = (16, nx, a, b, v, ts)) (hk : 10 ≤ t) (ht : ¬ x < 0 → EV d m a L st σ n Q) (hf : x < 0 → EV d m nx L st σ n Q) : EV d m pc L ((t, x) :: st) σ n Q := by
  refine ev_stp hi (by decide) rfl (by simp only [stpM]; rw [if_pos hk]) ?_
  by_cases h : x < 0
  · rw [if_pos h]; exact hf h
  · rw [if_neg h]; exact ht h
theorem e_acmp {t t2 : Nat} {x y : Int} (hi : insF m pc = (17, nx, a, b, v, ts)) (hk : 10 ≤ t ∧ 10 ≤ t2) (ht : x = y → EV d m a L st σ n Q) (hf : ¬ x = y → EV d m nx L st σ n Q) : EV d m pc L ((t2, y) :: (t, x) :: st) σ n Q := by
  refine ev_stp hi (by decide) rfl (by simp only [stpM]; rw [if_pos hk]) ?_
  by_cases h : x = y
  · rw [if_pos h]; exact ht h
  · rw [if_neg h]; exact hf h
theorem e_goto (hi : insF m pc = (18, nx, a, b, v, ts)) (h : EV d m a L st σ n Q) : EV d m pc L st σ n Q := ev_stp hi (by decide) rfl rfl h
theorem e_switch {x : Int} (hi : insF m pc = (19, nx, a, b, v, ts)) (h : EV d m ((ts.lookup x).getD a) L st σ n Q) : EV d m pc L ((0, x) :: st) σ n Q := ev_stp hi (by decide) rfl rfl h
theorem e_getf {t t' : Nat} {k : Int} (hi : insF m pc = (21, nx, a, b, v, ts)) (ht : t = 10 + a) (ht' : (if ftF a b = 7 then 0 else ftF a b) = t') (h0 : 0 ≤ k) (h : EV d m nx L ((t', σ k b) :: st) σ n Q) : EV d m pc L ((t, k) :: st) σ n Q := by
  refine ev_stp hi (by decide) rfl (by simp only [stpM]; rw [if_pos ⟨ht, h0⟩]) ?_
  show EV d m nx L ((if ftF a b = 7 then 0 else ftF a b, σ k b) :: st) σ n Q
  rw [ht']
  exact h
theorem e_putf {t t' : Nat} {k x : Int} (hi : insF m pc = (22, nx, a, b, v, ts)) (ht : t = 10 + a) (ht' : t' = ftF a b) (h0 : 0 ≤ k) (h : EV d m nx L st (wrM σ k b x) n Q) : EV d m pc L ((t', x) :: (t, k) :: st) σ n Q := ev_stp hi (by decide) rfl (by simp only [stpM]; rw [if_pos ⟨ht, h0, ht'⟩]) h
theorem e_putz {t : Nat} {k x : Int} (hi : insF m pc = (23, nx, a, b, v, ts)) (ht : t = 10 + a) (h0 : 0 ≤ k) (hx : x = 0 ∨ x = 1) (h : EV d m nx L st (wrM σ k b x) n Q) : EV d m pc L ((0, x) :: (t, k) :: st) σ n Q := ev_stp hi (by decide) rfl (by simp only [stpM]; rw [if_pos ⟨ht, h0, hx⟩]) h
theorem e_ald {t : Nat} {k i : Int} (hi : insF m pc = (24, nx, a, b, v, ts)) (ht : t = a) (h0 : 0 ≤ k) (i0 : 0 ≤ i ∧ i < lnF k) (h : EV d m nx L ((b, σ k i) :: st) σ n Q) : EV d m pc L ((0, i) :: (t, k) :: st) σ n Q := ev_stp hi (by decide) rfl (by simp only [stpM]; rw [if_pos ⟨ht, h0, i0.1, i0.2⟩]) h
theorem e_iast {k i x : Int} (hi : insF m pc = (28, nx, a, b, v, ts)) (h0 : 0 ≤ k) (i0 : 0 ≤ i ∧ i < lnF k) (h : EV d m nx L st (wrM σ k i x) n Q) : EV d m pc L ((0, x) :: (0, i) :: (50, k) :: st) σ n Q := ev_stp hi (by decide) rfl (by simp only [stpM]; rw [if_pos ⟨h0, i0.1, i0.2⟩]) h
theorem e_bast {k i x : Int} (hi : insF m pc = (29, nx, a, b, v, ts)) (h0 : 0 ≤ k) (i0 : 0 ≤ i ∧ i < lnF k) (h : EV d m nx L st (wrM σ k i (Zbnar x)) n Q) : EV d m pc L ((0, x) :: (0, i) :: (51, k) :: st) σ n Q := ev_stp hi (by decide) rfl (by simp only [stpM]; rw [if_pos ⟨h0, i0.1, i0.2⟩]) h
theorem e_zast {k i x : Int} (hi : insF m pc = (30, nx, a, b, v, ts)) (h0 : 0 ≤ k) (i0 : 0 ≤ i ∧ i < lnF k) (h : EV d m nx L st (wrM σ k i (Zznar x)) n Q) : EV d m pc L ((0, x) :: (0, i) :: (52, k) :: st) σ n Q := ev_stp hi (by decide) rfl (by simp only [stpM]; rw [if_pos ⟨h0, i0.1, i0.2⟩]) h
theorem e_aast {t t' : Nat} {k i x : Int} (hi : insF m pc = (31, nx, a, b, v, ts)) (ht : t = a ∧ t' = b) (hx : 0 ≤ x) (h0 : 0 ≤ k) (i0 : 0 ≤ i ∧ i < lnF k) (h : EV d m nx L st (wrM σ k i x) n Q) : EV d m pc L ((t', x) :: (0, i) :: (t, k) :: st) σ n Q := ev_stp hi (by decide) rfl (by simp only [stpM]; rw [if_pos ⟨ht.1, ht.2, hx, h0, i0.1, i0.2⟩]) h
theorem e_alen {k : Int} (hi : insF m pc = (32, nx, a, b, v, ts)) (h0 : 0 ≤ k) (h : EV d m nx L ((0, lnF k) :: st) σ n Q) : EV d m pc L ((50, k) :: st) σ n Q := ev_stp hi (by decide) rfl (by simp only [stpM]; rw [if_pos h0]; rfl) h
theorem e_new (hi : insF m pc = (33, nx, a, b, v, ts)) (hs : shF n = 10 + a) (h : EV d m nx L ((10 + a, (n : Int)) :: st) (mkM σ n (dfl a ftF)) (n + 1) Q) : EV d m pc L st σ n Q := ev_stp hi (by decide) rfl (by simp only [stpM]; exact if_pos hs) h
theorem e_newa {x : Int} (hi : insF m pc = (34, nx, a, b, v, ts)) (hs : shF n = a ∧ lnF n = x ∧ 0 ≤ x ∧ x ≤ 1000) (h : EV d m nx L ((a, (n : Int)) :: st) (mkM σ n (fun _ => 0)) (n + 1) Q) : EV d m pc L ((0, x) :: st) σ n Q := ev_stp hi (by decide) rfl (by simp only [stpM]; exact if_pos hs) h
theorem e_anew {x : Int} (hi : insF m pc = (35, nx, a, b, v, ts)) (hs : shF n = a ∧ lnF n = x ∧ 0 ≤ x ∧ x ≤ 1000) (h : EV d m nx L ((a, (n : Int)) :: st) (mkM σ n (fun _ => -1)) (n + 1) Q) : EV d m pc L ((0, x) :: st) σ n Q := ev_stp hi (by decide) rfl (by simp only [stpM]; exact if_pos hs) h
theorem e_obj {t : Nat} {k : Int} (hi : insF m pc = (37, nx, a, b, v, ts)) (ht : 10 ≤ t) (h0 : 0 ≤ k) (hs : (st.map catM).sum ≤ 8) (h : EV d m nx L st σ n Q) : EV d m pc L ((t, k) :: st) σ n Q := ev_stp hi (by decide) rfl (by simp only [stpM]; rw [if_pos ⟨ht, h0, hs⟩]) h
theorem e_str (hi : insF m pc = (43, nx, a, b, v, ts)) (h : EV d m nx L ((3, v) :: st) σ n Q) : EV d m pc L st σ n Q := ev_stp hi (by decide) rfl rfl h
theorem e_slen {k : Int} (hi : insF m pc = (44, nx, a, b, v, ts)) (hs : (st.map catM).sum ≤ 8) (h : EV d m nx L ((0, slF k) :: st) σ n Q) : EV d m pc L ((3, k) :: st) σ n Q := ev_stp hi (by decide) rfl (by simp only [stpM]; rw [if_pos hs]; rfl) h
theorem e_schr {k i : Int} (hi : insF m pc = (45, nx, a, b, v, ts)) (hs : (st.map catM).sum ≤ 8) (i0 : 0 ≤ i ∧ i < slF k) (h : EV d m nx L ((0, scF k i) :: st) σ n Q) : EV d m pc L ((0, i) :: (3, k) :: st) σ n Q := ev_stp hi (by decide) rfl (by simp only [stpM]; rw [if_pos ⟨i0.1, i0.2, hs⟩]; rfl) h
theorem e_copy {k1 k2 sp dp c : Int} (hi : insF m pc = (46, nx, a, b, v, ts)) (hs : (st.map catM).sum ≤ 8) (hk : 0 ≤ k1 ∧ 0 ≤ k2 ∧ ¬ k1 = k2 ∧ 0 ≤ c ∧ 0 ≤ sp ∧ 0 ≤ dp ∧ sp + c ≤ lnF k1 ∧ dp + c ≤ lnF k2) (h : EV d m nx L st (cpM σ k1 sp k2 dp c) n Q) : EV d m pc L ((0, c) :: (0, dp) :: (50, k2) :: (0, sp) :: (50, k1) :: st) σ n Q := by
  obtain ⟨h1, h2, h3, h4, h5, h6, h7, h8⟩ := hk
  exact ev_stp hi (by decide) rfl (by simp only [stpM]; rw [if_pos ⟨h1, h2, h3, h4, h5, h6, h7, h8, hs⟩]) h
theorem e_scr {w i : Int} (hi : insF m pc = (47, nx, a, b, v, ts)) (i0 : 0 ≤ i ∧ i < σ (-2) (-1)) (h : EV d m nx L ((0, σ (-2) i) :: st) σ n Q) : EV d m pc L ((0, i) :: (5, w) :: st) σ n Q := ev_stp hi (by decide) rfl (by simp only [stpM]; rw [if_pos i0]) h
theorem e_scl {w : Int} (hi : insF m pc = (48, nx, a, b, v, ts)) (h : EV d m nx L ((0, σ (-2) (-1)) :: st) σ n Q) : EV d m pc L ((5, w) :: st) σ n Q := ev_stp hi (by decide) rfl rfl h
theorem e_mm {x y z : Int} (hi : insF m pc = (49, nx, a, b, v, ts)) (hs : (st.map catM).sum ≤ 8) (hz : (if b = 0 then (if x < y then y else x) else (if y < x then y else x)) = z) (h : EV d m nx L ((0, z) :: st) σ n Q) : EV d m pc L ((0, y) :: (0, x) :: st) σ n Q := ev_stp hi (by decide) rfl (by simp only [stpM]; rw [if_pos hs, hz]) h
end EVR
