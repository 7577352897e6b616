/-! numbers of the small machine -/
theorem t_of {x : Int} (h : -2147483648 ≤ x) (h2 : x ≤ 2147483647) : (Int32.ofInt x).toInt = x := o32 ⟨h, h2⟩
theorem Zadd_eq {a b : Int} (h : -2147483648 ≤ a + b) (h2 : a + b ≤ 2147483647) : Zadd a b = a + b := by
  unfold Zadd
  rw [← Int32.ofInt_add]
  exact t_of h h2
theorem Zsub_eq {a b : Int} (h : -2147483648 ≤ a - b) (h2 : a - b ≤ 2147483647) : Zsub a b = a - b := by
  unfold Zsub
  rw [← Int32.ofInt_sub]
  exact t_of h h2
theorem Zmul_eq {a b : Int} (h : -2147483648 ≤ a * b) (h2 : a * b ≤ 2147483647) : Zmul a b = a * b := by
  unfold Zmul
  rw [← Int32.ofInt_mul]
  exact t_of h h2
theorem wr_if {σ : Mem} {k j v a b : Int} : wrM σ k j v a b = if a = k ∧ b = j then v else σ a b := rfl
