/-! printed by wip/whole/specs39.py: INV holds when both objects are made; the law's run -/
theorem grst_0 : grL.all (fun e => decide (¬ e.1 = 70) && (decide (rdL Jr e.1 e.2.1 = some e.2.2) || (decide (e = (1, 0, 2)) && decide (rdL Jr 1 0 = none)))) = true := by decide +kernel
theorem wlst_0 : (List.range 37).all (fun x => decide (rdL Jr 107 (x : Int) = some (WL (x : Int)))) = true := by decide +kernel
theorem inv_0 {X : Int → Int} {τ σ : Mem} (hs : ∀ j, τ (-2) j = X j) (h1 : τ 1 0 = 2) (h11 : τ 1 1 = 30) (hw : ∀ j, τ 2 j = if 0 ≤ j ∧ j < 36 ∧ ¬ j / 6 = j % 6 then 60 else 0) (h : RWy (ap Jr τ) σ 70 36) : INV X σ 114 := by
  have V : ∀ {a b v : Int}, ¬ a = 70 → rdL Jr a b = some v → σ a b = v := fun ha q => (h.1 _ _ ha).trans (rdL_ok q)
  have Z : ∀ {a : Int}, ¬ a = 70 → zr Jr a = some (some 0) → ∀ j, σ a j = 0 := fun ha q j => (h.1 _ _ ha).trans (zr_ok q j)
  have E : ∀ {a b : Int}, ¬ a = 70 → zr Jr a = some (some 0) → ¬ b = 70 → zr Jr b = some (some 0) → ∀ j, σ a j = σ b j := fun ha q hb q' j => (Z ha q j).trans (Z hb q' j).symm
  have h2 : ∀ j, σ 2 j = if 0 ≤ j ∧ j < 36 ∧ ¬ j / 6 = j % 6 then 60 else 0 := fun j => (h.1 2 j (by decide)).trans ((zr_no (by decide +kernel) j).trans (hw j))
  have g11 : σ 1 1 = 30 := (h.1 1 1 (by decide)).trans ((rdL_no (by decide +kernel)).trans h11)
  have m11 : σ 69 11 = 30 := V (by decide) (by decide +kernel)
  have c3 : σ 3 2 = 0 := V (by decide) (by decide +kernel)
  have m2 : σ 69 2 = 0 := V (by decide) (by decide +kernel)
  have c6 : σ 6 7 = 0 := V (by decide) (by decide +kernel)
  have m4 : σ 69 4 = 0 := V (by decide) (by decide +kernel)
  have c14 : σ 14 1 = 0 := V (by decide) (by decide +kernel)
  have m12 : σ 69 12 = 0 := V (by decide) (by decide +kernel)
  have c50 : σ 50 3 = 0 := V (by decide) (by decide +kernel)
  have m40 : σ 69 40 = 0 := V (by decide) (by decide +kernel)
  have c52 : σ 52 6 = 0 := V (by decide) (by decide +kernel)
  have m55 : σ 69 55 = 0 := V (by decide) (by decide +kernel)
  have c09 : σ 0 9 = 59 := V (by decide) (by decide +kernel)
  have c010 : σ 0 10 = 64 := V (by decide) (by decide +kernel)
  have c59 : σ 59 4 = 0 := V (by decide) (by decide +kernel)
  have m43 : σ 69 43 = 0 := V (by decide) (by decide +kernel)
  have a7 : σ 24 7 = 0 := V (by decide) (by decide +kernel)
  have b7 : σ 69 37 = 0 := V (by decide) (by decide +kernel)
  have a8 : σ 24 8 = 0 := V (by decide) (by decide +kernel)
  have b8 : σ 69 38 = 0 := V (by decide) (by decide +kernel)
  have a9 : σ 24 9 = 0 := V (by decide) (by decide +kernel)
  have b9 : σ 69 34 = 0 := V (by decide) (by decide +kernel)
  have a10 : σ 24 10 = 0 := V (by decide) (by decide +kernel)
  have b10 : σ 69 35 = 0 := V (by decide) (by decide +kernel)
  have a11 : σ 24 11 = 0 := V (by decide) (by decide +kernel)
  have b11 : σ 69 36 = 0 := V (by decide) (by decide +kernel)
  refine ⟨?_, ?_, ?_, ?_, ?_, ?_, ?_, ?_, ?_, ?_⟩
  · intro e he
    have q := List.all_eq_true.mp grst_0 e he
    simp only [Bool.and_eq_true, Bool.or_eq_true, decide_eq_true_eq] at q
    rcases q with ⟨q0, q1 | ⟨q1, q2⟩⟩
    · exact V q0 q1
    · subst q1
      exact (h.1 1 0 (by decide)).trans ((rdL_no q2).trans h1)
  · exact fun j => (h.1 (-2) j (by decide)).trans ((zr_no (by decide +kernel) j).trans (hs j))
  · refine ⟨fun j => (h2 j).trans (h.2 j).symm, fun j _ _ => ?_, fun t t0 t5 => ?_, g11.trans m11.symm, by omega⟩
    · have q : σ 2 j = 0 ∨ σ 2 j = 60 := by
        rw [h2 j]
        split
        · exact Or.inr rfl
        · exact Or.inl rfl
      omega
    · rw [h2, if_neg (fun q => q.2.2 (by omega))]
  · refine ⟨c3.trans m2.symm, by omega, (E (by decide) (by decide +kernel) (by decide) (by decide +kernel)), fun q q0 q1 => by omega, (E (by decide) (by decide +kernel) (by decide) (by decide +kernel)), fun j => Or.inl (Z (by decide) (by decide +kernel) j)⟩
  · refine ⟨c6.trans m4.symm, ⟨by omega, fun i i0 i1 => by omega, ?_⟩, (E (by decide) (by decide +kernel) (by decide) (by decide +kernel)), (E (by decide) (by decide +kernel) (by decide) (by decide +kernel)), (E (by decide) (by decide +kernel) (by decide) (by decide +kernel)), (E (by decide) (by decide +kernel) (by decide) (by decide +kernel)), (E (by decide) (by decide +kernel) (by decide) (by decide +kernel)), (E (by decide) (by decide +kernel) (by decide) (by decide +kernel))⟩
    have z7 : ∀ j, σ 7 j = 0 := Z (by decide) (by decide +kernel)
    exact fun t _ _ => Or.inl (z7 t)
  · refine ⟨⟨by omega, by omega, fun i i0 i1 => by omega⟩, c14.trans m12.symm, by rw [c14]; rfl, fun k k0 k1 => by omega, fun y => ?_⟩
    rw [c14]
    exact Nat.zero_le _
  · exact ⟨a7.trans b7.symm, a8.trans b8.symm, a9.trans b9.symm, a10.trans b10.symm, a11.trans b11.symm⟩
  · refine ⟨c50.trans m40.symm, ⟨by omega, fun x => ?_⟩, (E (by decide) (by decide +kernel) (by decide) (by decide +kernel)), fun x x0 x1 => ?_⟩
    · rw [Z (a := 51) (by decide) (by decide +kernel) x]; decide
    · have q := List.all_eq_true.mp wlst_0 x.toNat (List.mem_range.mpr (by omega))
      have e : ((x.toNat : Nat) : Int) = x := by omega
      rw [e] at q
      exact V (by decide) (of_decide_eq_true q)
  · refine ⟨Or.inl ⟨c09, c010⟩, [], ⟨?_, fun i e q => by cases q⟩, ⟨m43, fun i e q => by cases q⟩, Nat.zero_le _⟩
    rw [c09]; exact c59
  · exact ⟨c52.trans m55.symm, by omega, (E (by decide) (by decide +kernel) (by decide) (by decide +kernel)), (E (by decide) (by decide +kernel) (by decide) (by decide +kernel)), (E (by decide) (by decide +kernel) (by decide) (by decide +kernel)), (E (by decide) (by decide +kernel) (by decide) (by decide +kernel)), (E (by decide) (by decide +kernel) (by decide) (by decide +kernel)), (E (by decide) (by decide +kernel) (by decide) (by decide +kernel)), fun j => Or.inl (Z (by decide) (by decide +kernel) j), fun k k0 k1 => by omega⟩
theorem scM_r (L : Nat) (xs : Nat → Int32) (hL : L ≤ 4096) : ∀ j, -2147483648 ≤ scM L xs (-2) j ∧ scM L xs (-2) j ≤ 2147483647 := by
  intro j
  show -2147483648 ≤ (if (-2 : Int) = -2 then (if j = -1 then (L : Int) else if 0 ≤ j ∧ j < L then (xs j.toNat).toInt else 0) else 0) ∧ (if (-2 : Int) = -2 then (if j = -1 then (L : Int) else if 0 ≤ j ∧ j < L then (xs j.toNat).toInt else 0) else 0) ≤ 2147483647
  rw [if_pos rfl]
  by_cases a : j = -1
  · rw [if_pos a]; omega
  · rw [if_neg a]
    by_cases b : 0 ≤ j ∧ j < L
    · rw [if_pos b]
      have h1 := Int32.le_toInt (xs j.toNat)
      have h2 := Int32.toInt_lt (xs j.toNat)
      omega
    · rw [if_neg b]; decide
theorem law_EV0 (L : Nat) (xs : Nat → Int32) (hL : L ≤ 4096) : EV 20 179 0 [(5, 0), (9, 0), (9, 0), (9, 0)] [] (scM L xs) 0 (fun r _ _ => r = some (0, 1)) := by
  refine b_179_0 (d := 19) (h0 := by decide +kernel) (h1 := by decide +kernel) (k := ?_)
  refine k_85 (fun τ h1 h2 h3 h4 => ?_)
  show EV 20 179 7 [(5, 0), (9, 0), (9, 0), (9, 0)] [(21, 0)] (ap Jd τ) 69 _
  refine b_179_7 (d := 19) (h0 := by decide +kernel) (h1 := by decide +kernel) (k := ?_)
  refine k_121 (τ := τ) (fun σ' h' => ?_)
  show EV 20 179 15 [(5, 0), (21, 0), (9, 0), (9, 0)] [(22, 69)] σ' 114 _
  refine b_179_15 ?_
  exact law_loop (X := fun j => scM L xs (-2) j) (L := (L : Int)) rfl (by omega) (scM_r L xs hL) 5000 0 σ' 114 (by decide) (by decide) (by omega) (inv_0 h1 h2 h3 h4 h')
