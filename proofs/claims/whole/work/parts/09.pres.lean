/-! the small machine keeps its state well-formed -/
theorem sh_lt {n : Nat} (h : ¬ shF n = 0) : n < 138 := by
  rcases Nat.lt_or_ge n 138 with q | q
  · exact q
  · exact absurd (by unfold shF; rw [List.getD_eq_getElem?_getD, List.getElem?_eq_none (by exact q)]; rfl) h
theorem okM_wr {n k : Nat} {σ : Mem} {j v : Int} (hM : okM n σ) (hobj : shF k < 50 → ∀ i : Nat, (i : Int) = j → (ftF (shF k - 10) i < 10 → in32 v) ∧ (10 ≤ ftF (shF k - 10) i → okR n (ftF (shF k - 10) i) v)) (harr : 50 ≤ shF k → shF k < 53 → in32 v) (hrar : 53 ≤ shF k → okR n (elT (shF k)) v) : okM n (wrM σ k j v) := by
  obtain ⟨h1, h2, h3⟩ := hM
  refine ⟨h1, fun i => by rw [wr_ne (by omega)]; exact h2 i, fun k' hk' => ?_⟩
  by_cases e : k' = k
  · subst e
    obtain ⟨a1, a2, a3⟩ := h3 k' hk'
    refine ⟨fun q i hi => ?_, fun q1 q2 i i0 i1 => ?_, fun q i i0 i1 => ?_⟩
    · by_cases ei : (i : Int) = j
      · have e2 : wrM σ k' j v k' i = v := if_pos ⟨rfl, ei⟩
        rw [e2]
        exact hobj q i ei
      · have e2 : wrM σ k' j v k' i = σ k' i := if_neg (fun z => ei z.2)
        rw [e2]
        exact a1 q i hi
    · by_cases ei : i = j
      · have e2 : wrM σ k' j v k' i = v := if_pos ⟨rfl, ei⟩
        rw [e2]
        exact harr q1 q2
      · have e2 : wrM σ k' j v k' i = σ k' i := if_neg (fun z => ei z.2)
        rw [e2]
        exact a2 q1 q2 i i0 i1
    · by_cases ei : i = j
      · have e2 : wrM σ k' j v k' i = v := if_pos ⟨rfl, ei⟩
        rw [e2]
        exact hrar q
      · have e2 : wrM σ k' j v k' i = σ k' i := if_neg (fun z => ei z.2)
        rw [e2]
        exact a3 q i i0 i1
  · have e2 : ∀ x, wrM σ k j v k' x = σ k' x := fun x => wr_ne (by omega)
    simp only [e2]
    exact h3 k' hk'
theorem okM_mk {n : Nat} {σ : Mem} {f : Int → Int} (hM : okM n σ) (hn : n < 138) (hobj : shF n < 50 → ∀ i : Nat, (ftF (shF n - 10) i < 10 → in32 (f i)) ∧ (10 ≤ ftF (shF n - 10) i → f i = -1)) (harr : 50 ≤ shF n → shF n < 53 → ∀ i, in32 (f i)) (hrar : 53 ≤ shF n → ∀ i, f i = -1) : okM (n + 1) (mkM σ n f) := by
  obtain ⟨h1, h2, h3⟩ := hM
  have e1 : ∀ (a x : Int), ¬ a = n → mkM σ n f a x = σ a x := fun a x h => if_neg h
  have e0 : ∀ x : Int, mkM σ n f n x = f x := fun x => if_pos rfl
  refine ⟨by omega, fun i => by rw [e1 _ _ (by omega)]; exact h2 i, fun k hk => ?_⟩
  by_cases e : k = n
  · subst e
    simp only [e0]
    exact ⟨fun q i _ => ⟨(hobj q i).1, fun z => Or.inl ((hobj q i).2 z)⟩, fun q1 q2 i _ _ => harr q1 q2 i, fun q i _ _ => Or.inl (hrar q i)⟩
  · have e2 : ∀ x, mkM σ n f k x = σ k x := fun x => e1 _ _ (by omega)
    simp only [e2]
    obtain ⟨a1, a2, a3⟩ := h3 k (by omega)
    exact ⟨fun q i hi => ⟨(a1 q i hi).1, fun z => ((a1 q i hi).2 z).mono (by omega)⟩, a2, fun q i i0 i1 => (a3 q i i0 i1).mono (by omega)⟩
theorem okM_cp {n k1 k2 : Nat} {σ : Mem} {sp dp c : Int} (hM : okM n σ) (hk1 : k1 < n) (h1 : shF k1 = 50) (h2 : shF k2 = 50) (hsp : 0 ≤ sp) (hc : sp + c ≤ lnF k1) : okM n (cpM σ k1 sp k2 dp c) := by
  obtain ⟨q1, q2, q3⟩ := hM
  have e1 : ∀ (a x : Int), ¬ a = k2 → cpM σ k1 sp k2 dp c a x = σ a x := fun a x h => if_neg (fun z => h z.1)
  refine ⟨q1, fun i => by rw [e1 _ _ (by omega)]; exact q2 i, fun k hk => ?_⟩
  by_cases e : k = k2
  · subst e
    obtain ⟨-, a2, -⟩ := q3 k hk
    refine ⟨fun z => absurd z (by omega), fun z1 z2 i i0 i1 => ?_, fun z => absurd z (by omega)⟩
    unfold cpM
    split
    · rename_i hh
      exact (q3 k1 hk1).2.1 (by omega) (by omega) _ (by omega) (by omega)
    · exact a2 z1 z2 i i0 i1
  · have e2 : ∀ x, cpM σ k1 sp k2 dp c k x = σ k x := fun x => e1 _ _ (by omega)
    simp only [e2]
    exact q3 k hk
def okC (m n : Nat) (L st : List AV) (σ : Mem) : Prop := okM n σ ∧ (∀ x ∈ L, x.1 = 9 ∨ okV n x) ∧ (∀ x ∈ st, okV n x) ∧ (m ∉ mgL → ∀ x ∈ L, ¬ x.1 = 2)
theorem ok_cons {n : Nat} {x : AV} {st : List AV} (hx : okV n x) (h : ∀ y ∈ st, okV n y) : ∀ y ∈ x :: st, okV n y := fun y hy => (List.mem_cons.mp hy).elim (fun e => e ▸ hx) (h y)
theorem ok_tail {n : Nat} {x : AV} {st : List AV} (h : ∀ y ∈ x :: st, okV n y) : ∀ y ∈ st, okV n y := fun y hy => h y (List.mem_cons_of_mem _ hy)
theorem ok_head {n : Nat} {x : AV} {st : List AV} (h : ∀ y ∈ x :: st, okV n y) : okV n x := h x List.mem_cons_self
theorem okL_set {n a : Nat} {x : AV} {L : List AV} (hx : okV n x) (h : ∀ y ∈ L, y.1 = 9 ∨ okV n y) : ∀ y ∈ L.set a x, y.1 = 9 ∨ okV n y := fun y hy => (List.mem_or_eq_of_mem_set hy).elim (h y) (fun e => Or.inr (e ▸ hx))
theorem okL_sto {n a : Nat} {x : AV} {L : List AV} (hx : okV n x) (h : ∀ y ∈ L, y.1 = 9 ∨ okV n y) : ∀ y ∈ stoM L a x, y.1 = 9 ∨ okV n y := by
  unfold stoM
  split
  · intro y hy
    rcases List.mem_or_eq_of_mem_set hy with q | q
    · exact okL_set hx h y q
    · exact Or.inl (by rw [q])
  · exact okL_set hx h
theorem sto_len {a : Nat} {x : AV} {L : List AV} : (stoM L a x).length = L.length := by unfold stoM; split <;> simp
theorem bin_ok {k : Nat} {a b z : Int} (h : binM k a b = some z) : in32 z := by
  unfold binM at h
  split at h
  all_goals first | (cases h; exact t32 _) | (split at h <;> first | (cases h; done) | (cases h; exact t32 _)) | cases h
theorem lbin_ok {k : Nat} {a b z : Int} (h : lbinM k a b = some z) : in64 z := by
  unfold lbinM at h
  split at h
  all_goals first | (cases h; exact t64 _) | (split at h <;> first | (cases h; done) | (cases h; exact t64 _)) | cases h
theorem sc_ok : ∀ k : Nat, k < 7 → in32 (slF k) ∧ ∀ i : Nat, i < 10 → in32 (scF k i) := by unfold in32; decide +kernel
theorem sl_le : ∀ k : Nat, k < 7 → slF k ≤ 10 := by decide +kernel
