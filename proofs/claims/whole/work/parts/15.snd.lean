/-! a run of the small machine is a run of the machine -/
theorem tb_ok : (insL.zipIdx.all (fun q => q.1.all (fun e => (decide (¬ e.2.1 = 47) && decide (¬ e.2.1 = 48) || decide (q.2 = 179)) && (decide (¬ e.2.1 = 4) || decide (e.2.2.2.1 < mlF q.2))))) = true := by decide +kernel
theorem ins_mem {m pc op nx a b : Nat} {v : Int} {ts : List (Int × Nat)} (h : insF m pc = (op, nx, a, b, v, ts)) (ho : ¬ op = 99) : ∃ l, insL[m]? = some l ∧ (pc, ((op, nx, a, b, v, ts) : Ins)) ∈ l := by
  unfold insF at h
  rw [List.getD_eq_getElem?_getD] at h
  cases hl : insL[m]? with
  | none =>
    rw [hl] at h
    simp only [Option.getD_none, List.lookup_nil, Prod.mk.injEq] at h
    exact absurd h.1.symm ho
  | some l =>
    rw [hl] at h
    simp only [Option.getD_some] at h
    refine ⟨l, rfl, ?_⟩
    cases hk : l.lookup pc with
    | none =>
      rw [hk] at h
      simp only [Option.getD_none, Prod.mk.injEq] at h
      exact absurd h.1.symm ho
    | some i =>
      rw [hk] at h
      simp only [Option.getD_some] at h
      subst h
      clear hl
      induction l with
      | nil => cases hk
      | cons q l ih =>
        obtain ⟨x, y⟩ := q
        rw [List.lookup_cons] at hk
        by_cases hx : pc == x
        · rw [hx] at hk
          simp only [beq_iff_eq] at hx
          cases hk
          rw [hx]
          exact List.mem_cons_self
        · simp only [hx] at hk
          exact List.mem_cons_of_mem _ (ih hk)
theorem tb_of {m pc op nx a b : Nat} {v : Int} {ts : List (Int × Nat)} (h : insF m pc = (op, nx, a, b, v, ts)) (ho : ¬ op = 99) : (op = 47 ∨ op = 48 → m = 179) ∧ (op = 4 → a < mlF m) := by
  obtain ⟨l, h1, h2⟩ := ins_mem h ho
  have h3 := List.all_eq_true.mp tb_ok (l, m) (List.mem_of_getElem? (i := m) (by rw [List.getElem?_zipIdx, h1]; simp))
  have h4 := List.all_eq_true.mp h3 _ h2
  simp only [Bool.and_eq_true, Bool.or_eq_true, decide_eq_true_eq] at h4
  obtain ⟨h5, h6⟩ := h4
  refine ⟨fun q => ?_, fun q => ?_⟩
  · rcases h5 with z | z
    · rcases q with q | q
      · exact absurd q z.1
      · exact absurd q z.2
    · exact z
  · rcases h6 with z | z
    · exact absurd q z
    · exact z
theorem ent_ok {m n : Nat} {as : List AV} {σ : Mem} (hM : okM n σ) (ha : ∀ x ∈ as, okV n x) (h2 : ∀ x ∈ as, ¬ x.1 = 2) (nL : Nat) : okC m n (entM nL as) [] σ := by
  refine ⟨hM, fun x hx => ?_, fun x hx => absurd hx List.not_mem_nil, fun _ x hx => ?_⟩
  · rcases List.mem_append.mp hx with q | q
    · exact Or.inr (ha x q)
    · exact Or.inl (by rw [(List.mem_replicate.mp q).2])
  · rcases List.mem_append.mp hx with q | q
    · exact h2 x q
    · rw [(List.mem_replicate.mp q).2]; simp
theorem ent_len {nL : Nat} {as : List AV} (h : as.length ≤ nL) : (entM nL as).length = nL := by
  unfold entM
  rw [List.length_append, List.length_replicate]
  omega
theorem arg_of {kd c nL : Nat} {as : List AV} (h : argM kd c nL as = true) : as.length ≤ nL ∧ (∀ x ∈ as, ¬ x.1 = 2 ∧ ¬ x.1 = 9) ∧ (¬ kd = 0 → ∃ k r, as = (10 + c, k) :: r ∧ 0 ≤ k) := by
  unfold argM at h
  simp only [Bool.and_eq_true, decide_eq_true_eq, List.all_eq_true] at h
  obtain ⟨⟨h1, h2⟩, h3⟩ := h
  refine ⟨h2, h3, fun hk => ?_⟩
  split at h1
  · exact absurd rfl hk
  · split at h1
    · rename_i t k r
      simp only [decide_eq_true_eq] at h1
      obtain ⟨rfl, q⟩ := h1
      exact ⟨k, r, rfl, q⟩
    · cases h1
theorem ret_of {op : Nat} {st : List AV} {r : Option AV} (h : retM op st = some r) : st = r.toList := by
  unfold retM at h
  split at h
  · split at h
    · cases h; rfl
    · cases h
  · split at h
    · cases h; rfl
    · cases h
  · split at h
    · split at h
      · cases h; rfl
      · cases h
    · cases h
  · split at h
    · cases h; rfl
    · cases h
  · split at h
    · split at h
      · cases h; rfl
      · cases h
    · cases h
  · cases h
/-- a run, step by step -/
theorem run_cases {f d m pc : Nat} {L st : List AV} {σ : Mem} {n : Nat} {o : Out} (h : runM S0 M0 (f + 1) d m pc L st σ n = some o) :
    ∃ op nx a b v ts, insF m pc = (op, nx, a, b, v, ts) ∧
      ((op = 36 ∧ b ≤ st.length ∧ ((st.drop b).map catM).sum ≤ 8 ∧ argM v.toNat (moF a) (mlF a) (st.take b).reverse = true ∧ ∃ d' r σ1 n1, d = d' + 1 ∧ runM S0 M0 f d' a 0 (entM (mlF a) (st.take b).reverse) [] σ n = some (r, σ1, n1) ∧ runM S0 M0 f d m nx L (r.toList ++ st.drop b) σ1 n1 = some o) ∨
       (¬ op = 36 ∧ ∃ r, retM op st = some r ∧ o = (r, σ, n)) ∨
       (¬ op = 36 ∧ ∃ pc' L' st' σ' n', stpM S0 op nx a b v ts L st σ n = some (pc', L', st', σ', n') ∧ runM S0 M0 f d m pc' L' st' σ' n' = some o)) := by
  rw [runM] at h
  have hM : M0.2.2 m pc = insF m pc := rfl
  rw [hM] at h
  rcases hi : insF m pc with ⟨op, nx, a, b, v, ts⟩
  rw [hi] at h
  refine ⟨op, nx, a, b, v, ts, rfl, ?_⟩
  simp only at h
  by_cases h36 : op = 36
  · left
    rw [if_pos h36] at h
    split at h
    · rename_i hc
      obtain ⟨c1, c2, c3⟩ := hc
      refine ⟨h36, c1, c2, c3, ?_⟩
      split at h
      · cases h
      · rename_i d'
        split at h
        · cases h
        · rename_i r σ1 n1 hr
          exact ⟨d', r, σ1, n1, rfl, hr, h⟩
    · cases h
  · rw [if_neg h36] at h
    split at h
    · rename_i r hr
      right; left
      cases h
      exact ⟨h36, r, hr, rfl⟩
    · right; right
      split at h
      · cases h
      · rename_i pc' L' st' σ' n' hs
        exact ⟨h36, pc', L', st', σ', n', hs, h⟩
theorem ins_99 {nx a b : Nat} {v : Int} {ts : List (Int × Nat)} {L st : List AV} {σ : Mem} {n : Nat} : stpM S0 99 nx a b v ts L st σ n = none ∧ retM 99 st = none := ⟨rfl, rfl⟩
theorem stp_scr {op nx a b : Nat} {v : Int} {ts : List (Int × Nat)} {L st : List AV} {σ : Mem} {n pc' : Nat} {L' st' : List AV} {σ' : Mem} {n' : Nat} (h : stpM S0 op nx a b v ts L st σ n = some (pc', L', st', σ', n')) (j : Int) : σ' (-2) j = σ (-2) j := by
  unfold stpM at h
  split at h
  all_goals (try (repeat' (split at h)))
  all_goals first
    | (cases h; done)
    | (simp only [Option.some.injEq, Prod.mk.injEq] at h
       obtain ⟨-, -, -, rfl, -⟩ := h
       first
         | rfl
         | exact wr_ne (by omega)
         | exact mk_ne (by omega)
         | exact if_neg (fun q => by omega))
/-- a run keeps the state well-formed -/
theorem run_ok : ∀ (f d m pc : Nat) (L st : List AV) (σ : Mem) (n : Nat) (r : Option AV) (σ' : Mem) (n' : Nat), runM S0 M0 f d m pc L st σ n = some (r, σ', n') → okC m n L st σ → okM n' σ' ∧ (∀ x, r = some x → okV n' x) ∧ n ≤ n' ∧ ∀ j, σ' (-2) j = σ (-2) j := by
  intro f
  induction f with
  | zero => intro d m pc L st σ n r σ' n' h; cases h
  | succ f ih =>
    intro d m pc L st σ n r σ' n' h hC
    obtain ⟨op, nx, a, b, v, ts, hi, hcase⟩ := run_cases h
    rcases hcase with ⟨h36, c1, c2, c3, d', r1, σ1, n1, rfl, h1, h2⟩ | ⟨h36, r1, hr, ho⟩ | ⟨h36, pc', L', st', σ1, n1, hs, h2⟩
    · obtain ⟨hM, hL, hS, hG⟩ := hC
      obtain ⟨a1, a2, a3⟩ := arg_of c3
      have hargs : ∀ x ∈ (st.take b).reverse, okV n x := fun x hx => hS x (List.mem_of_mem_take (List.mem_reverse.mp hx))
      obtain ⟨q1, q2, q3, q4⟩ := ih d' a 0 _ [] σ n r1 σ1 n1 h1 (ent_ok hM hargs (fun x hx => (a2 x hx).1) _)
      obtain ⟨z1, z2, z3, z4⟩ := ih _ m nx L _ σ1 n1 r σ' n' h2 ⟨q1, fun x hx => (hL x hx).imp id (fun z => z.mono q3), fun x hx => by
        rcases List.mem_append.mp hx with z | z
        · exact q2 x (by cases r1 with
            | none => cases z
            | some y => simp only [Option.toList_some, List.mem_singleton] at z; rw [z])
        · exact (hS x (List.mem_of_mem_drop z)).mono q3, hG⟩
      exact ⟨z1, z2, Nat.le_trans q3 z3, fun j => (z4 j).trans (q4 j)⟩
    · cases ho
      obtain ⟨hM, hL, hS, hG⟩ := hC
      refine ⟨hM, fun x hx => hS x ?_, Nat.le_refl _, fun _ => rfl⟩
      rw [ret_of hr, hx]
      simp
    · have h99 : ¬ op = 99 := by
        intro q
        subst q
        rw [ins_99.1] at hs
        cases hs
      obtain ⟨hI, -⟩ := ins_ok hi h99
      obtain ⟨q1, q2, q3⟩ := stp_ok hI hs hC
      obtain ⟨z1, z2, z3, z4⟩ := ih d m pc' L' st' σ1 n1 r σ' n' h2 q1
      exact ⟨z1, z2, Nat.le_trans q2 z3, fun j => (z4 j).trans (stp_scr hs j)⟩
