/-- the arguments of a call on an object -/
theorem argM_v {kd c nL t : Nat} {k : Int} {tl : List AV} (hk : kd = 1 ∨ kd = 2) (ht : t = 10 + c) (h0 : 0 ≤ k) (h : (decide (((t, k) :: tl).length ≤ nL) && ((t, (0 : Int)) :: tl).all (fun x => decide (¬ x.1 = 2) && decide (¬ x.1 = 9))) = true) : argM kd c nL ((t, k) :: tl) = true := by
  simp only [Bool.and_eq_true, decide_eq_true_eq] at h
  unfold argM
  rw [Bool.and_eq_true, Bool.and_eq_true]
  refine ⟨⟨?_, decide_eq_true h.1⟩, ?_⟩
  · rcases hk with rfl | rfl <;> exact decide_eq_true ⟨ht, h0⟩
  · exact h.2
