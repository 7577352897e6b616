/-! the operations that need no glue, 2 -/
set_option maxHeartbeats 2000000 in
theorem o_known {X : Int → Int} {k y w : Int} : OP X 111 175 0 [(0, k), (0, y), (0, w)] := fun σ n hI => by
  obtain ⟨q1, q2, q53, q54, q55, q58, q56, q57, q6, q7⟩ := hI.q
  have hz : Zsub (σ 69 55) 1 = σ 69 55 - 1 := Zs1 (by omega)
  refine s_known (d := 17) hI.g q2 (fun v hv => ⟨v, rfl, hI.s, ?_⟩)
  refine m_known (d := 17) hI.g (by rw [← q1]; exact q2) (fun j => by rw [← q56]; exact q6 j) hz (fun v' hv' => ⟨?_, hI⟩)
  rw [hv, hv', ← q1, ← q53, ← q54, ← q55, ← q56, ← q57, ← q58]
  clear hv hv' v v' hz
  by_cases c : (0 ≤ y ∧ y ≤ 999) ∧ (0 ≤ k ∧ k < σ 52 6 ∧ σ 55 k ≤ y)
  · have q := q7 k c.2.1 c.2.2.1
    have e : (¬ σ 58 k = -1 ∧ σ 58 k ≤ y) ↔ (0 ≤ σ 58 k ∧ σ 58 k ≤ y) := by omega
    simp only [e]
  · rw [if_neg c, if_neg c]
