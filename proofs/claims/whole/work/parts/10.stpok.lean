theorem okR_sh {n t : Nat} {v : Int} (h : okR n t v) (hv : 0 ≤ v) : v.toNat < n ∧ shF v.toNat = t ∧ ((v.toNat : Nat) : Int) = v := by
  rcases h with h | ⟨h1, h2, h3⟩
  · omega
  · exact ⟨by omega, h3, by omega⟩
/-- a field of an object there -/
theorem okM_fld {n a b : Nat} {k : Int} {σ : Mem} (hM : okM n σ) (hk : okV n (10 + a, k)) (h0 : 0 ≤ k) (ha : a < 13) (hb : b < nfF a) : (ftF a b < 10 → in32 (σ k b)) ∧ (10 ≤ ftF a b → okR n (ftF a b) (σ k b)) := by
  obtain ⟨h1, h2, h3⟩ := okR_sh (hk.ref (by omega)) h0
  have h4 := (hM.2.2 k.toNat h1).1 (by rw [h2]; omega) b (by rw [h2, Nat.add_sub_cancel_left]; exact hb)
  rw [h2, Nat.add_sub_cancel_left, h3] at h4
  exact h4
theorem okM_arr {n t : Nat} {k i : Int} {σ : Mem} (hM : okM n σ) (hk : okV n (t, k)) (h1 : 50 ≤ t) (h2 : t < 53) (h0 : 0 ≤ k) (i0 : 0 ≤ i) (i1 : i < lnF k) : in32 (σ k i) := by
  obtain ⟨q1, q2, q3⟩ := okR_sh (hk.ref (by omega)) h0
  have h4 := (hM.2.2 k.toNat q1).2.1 (by omega) (by omega) i i0 (by rw [q3]; exact i1)
  rw [q3] at h4
  exact h4
theorem okM_rar {n t : Nat} {k i : Int} {σ : Mem} (hM : okM n σ) (hk : okV n (t, k)) (h1 : 53 ≤ t) (h0 : 0 ≤ k) (i0 : 0 ≤ i) (i1 : i < lnF k) : okR n (elT t) (σ k i) := by
  obtain ⟨q1, q2, q3⟩ := okR_sh (hk.ref (by omega)) h0
  have h4 := (hM.2.2 k.toNat q1).2.2 (by omega) i i0 (by rw [q3]; exact i1)
  rw [q3, q2] at h4
  exact h4
theorem okM_wrk {n : Nat} {k j v : Int} {σ : Mem} (hM : okM n σ) (h0 : 0 ≤ k) (hobj : shF k.toNat < 50 → ∀ i : Nat, (i : Int) = j → (ftF (shF k.toNat - 10) i < 10 → in32 v) ∧ (10 ≤ ftF (shF k.toNat - 10) i → okR n (ftF (shF k.toNat - 10) i) v)) (harr : 50 ≤ shF k.toNat → shF k.toNat < 53 → in32 v) (hrar : 53 ≤ shF k.toNat → okR n (elT (shF k.toNat)) v) : okM n (wrM σ k j v) := by
  have h := okM_wr (k := k.toNat) (j := j) (v := v) hM hobj harr hrar
  rwa [show ((k.toNat : Nat) : Int) = k by omega] at h
theorem fl_any {m a b : Nat} {v : Int} (h : flL.any (fun e => decide (e.1 = moF m ∧ e.2.1 = v.toNat ∧ e.2.2.1 = a ∧ e.2.2.2.1 = b)) = true) : (∃ i : Nat, lw_tbl[i]? = some (Cond.fieldLink (ownF (moF m)) v.toNat ((clF a).2.1 b).1 ((clF a).2.1 b).2.1 ((clF a).2.1 b).2.2.1)) ∧ b < nfF a ∧ a < 13 := by
  obtain ⟨e, he, h2⟩ := List.any_eq_true.mp h
  simp only [decide_eq_true_eq] at h2
  obtain ⟨h3, h4, h5, h6⟩ := h2
  obtain ⟨q1, q2, q3⟩ := fl_ok e he
  rw [h3, h4, h5, h6] at q1
  rw [h5, h6] at q2
  rw [h5] at q3
  exact ⟨⟨_, q1⟩, by rw [← (cw_ok a q3).2.1]; exact q2, q3⟩
set_option maxHeartbeats 4000000 in
theorem stp_ok {m pc op nx a b : Nat} {v : Int} {ts : List (Int × Nat)} {L st : List AV} {σ : Mem} {n pc' : Nat} {L' st' : List AV} {σ' : Mem} {n' : Nat} (hI : okI m pc (op, nx, a, b, v, ts) = true) (h : stpM S0 op nx a b v ts L st σ n = some (pc', L', st', σ', n')) (hC : okC m n L st σ) : okC m n' L' st' σ' ∧ n ≤ n' ∧ L'.length = L.length := by
  obtain ⟨hM, hL, hS, hG⟩ := hC
  unfold stpM at h
  split at h
  · -- 0
    simp only [Option.some.injEq, Prod.mk.injEq] at h
    obtain ⟨rfl, rfl, rfl, rfl, rfl⟩ := h
    simp only [okI, Bool.and_eq_true, decide_eq_true_eq] at hI
    exact ⟨⟨hM, hL, ok_cons (okV.i hI.1) hS, hG⟩, Nat.le_refl _, rfl⟩
  · -- 1
    simp only [Option.some.injEq, Prod.mk.injEq] at h
    obtain ⟨rfl, rfl, rfl, rfl, rfl⟩ := h
    refine ⟨⟨hM, hL, ok_cons (okV.l ?_) hS, hG⟩, Nat.le_refl _, rfl⟩
    simp only [okI] at hI
    split at hI
    · simp only [Bool.and_eq_true, Bool.or_eq_true, decide_eq_true_eq] at hI
      unfold in64
      rcases hI.1 with q | q <;> omega
    · simp only [Bool.and_eq_true] at hI
      obtain ⟨e, he, h2⟩ := List.any_eq_true.mp hI.2
      simp only [decide_eq_true_eq] at h2
      have q := (cj_ok e he).2
      rw [h2.2.2] at q
      exact q
  · -- 2
    simp only [Option.some.injEq, Prod.mk.injEq] at h
    obtain ⟨rfl, rfl, rfl, rfl, rfl⟩ := h
    simp only [okI, Bool.and_eq_true, decide_eq_true_eq] at hI
    exact ⟨⟨hM, hL, ok_cons (okV.r hI.2 (Or.inl rfl)) hS, hG⟩, Nat.le_refl _, rfl⟩
  · -- 3
    split at h
    · rename_i x hx
      split at h
      · rename_i hk
        simp only [Option.some.injEq, Prod.mk.injEq] at h
        obtain ⟨rfl, rfl, rfl, rfl, rfl⟩ := h
        simp only [okI, Bool.and_eq_true, decide_eq_true_eq] at hI
        have q := hL x (List.mem_of_getElem? hx)
        rcases q with q | q
        · exfalso
          unfold kdM at hk
          rw [q] at hk
          simp at hk
          omega
        · exact ⟨⟨hM, hL, ok_cons q hS, hG⟩, Nat.le_refl _, rfl⟩
      · cases h
    · cases h
  · -- 4
    split at h
    · rename_i x st0
      split at h
      · rename_i hk
        simp only [Option.some.injEq, Prod.mk.injEq] at h
        obtain ⟨rfl, rfl, rfl, rfl, rfl⟩ := h
        refine ⟨⟨hM, okL_sto (ok_head hS) hL, ok_tail hS, fun hg y hy => ?_⟩, Nat.le_refl _, sto_len⟩
        simp only [okI, Bool.and_eq_true, Bool.or_eq_true, decide_eq_true_eq] at hI
        have hb2 : b < 2 := by
          rcases hI.1.2 with q | q
          · exact q
          · exact absurd q hg
        have hx2 : ¬ x.1 = 2 := by
          intro q
          have q2 := hk.1
          unfold kdM at q2
          rw [q] at q2
          simp at q2
          omega
        unfold stoM at hy
        rw [if_neg hx2] at hy
        rcases List.mem_or_eq_of_mem_set hy with q | q
        · exact hG hg y q
        · rw [q]; exact hx2
      · cases h
    · cases h
  · -- 5
    split at h
    · rename_i x hx
      split at h
      · simp only [Option.some.injEq, Prod.mk.injEq] at h
        obtain ⟨rfl, rfl, rfl, rfl, rfl⟩ := h
        refine ⟨⟨hM, okL_set (okV.i (t32 _)) hL, hS, fun hg y hy => ?_⟩, Nat.le_refl _, by simp⟩
        rcases List.mem_or_eq_of_mem_set hy with q | q
        · exact hG hg y q
        · rw [q]; simp
      · cases h
    · cases h
  · -- 6
    split at h
    · split at h
      · rename_i hz
        simp only [Option.some.injEq, Prod.mk.injEq] at h
        obtain ⟨rfl, rfl, rfl, rfl, rfl⟩ := h
        exact ⟨⟨hM, hL, ok_cons (okV.i (bin_ok hz)) (ok_tail (ok_tail hS)), hG⟩, Nat.le_refl _, rfl⟩
      · cases h
    · cases h
  · -- 7
    split at h
    · split at h
      · rename_i hz
        simp only [Option.some.injEq, Prod.mk.injEq] at h
        obtain ⟨rfl, rfl, rfl, rfl, rfl⟩ := h
        exact ⟨⟨hM, hL, ok_cons (okV.l (lbin_ok hz)) (ok_tail (ok_tail hS)), hG⟩, Nat.le_refl _, rfl⟩
      · cases h
    · cases h
  · -- 8
    split at h
    · simp only [Option.some.injEq, Prod.mk.injEq] at h
      obtain ⟨rfl, rfl, rfl, rfl, rfl⟩ := h
      have q := (ok_head hS).int
      refine ⟨⟨hM, hL, ok_cons (okV.l ?_) (ok_tail hS), hG⟩, Nat.le_refl _, rfl⟩
      unfold in32 at q
      unfold in64
      omega
    · cases h
  · -- 9
    split at h
    · simp only [Option.some.injEq, Prod.mk.injEq] at h
      obtain ⟨rfl, rfl, rfl, rfl, rfl⟩ := h
      exact ⟨⟨hM, hL, ok_cons (okV.i (t32 _)) (ok_tail hS), hG⟩, Nat.le_refl _, rfl⟩
    · cases h
  · -- 10
    split at h
    · simp only [Option.some.injEq, Prod.mk.injEq] at h
      obtain ⟨rfl, rfl, rfl, rfl, rfl⟩ := h
      refine ⟨⟨hM, hL, ok_cons (okV.i ?_) (ok_tail (ok_tail hS)), hG⟩, Nat.le_refl _, rfl⟩
      unfold Zlcmp in32
      split
      · omega
      · split <;> omega
    · cases h
  · -- 11
    split at h
    · split at h
      · cases h
      · simp only [Option.some.injEq, Prod.mk.injEq] at h
        obtain ⟨rfl, rfl, rfl, rfl, rfl⟩ := h
        exact ⟨⟨hM, hL, ok_cons (ok_head hS) hS, hG⟩, Nat.le_refl _, rfl⟩
    · cases h
  · -- 12
    split at h
    · split at h
      · cases h
      · simp only [Option.some.injEq, Prod.mk.injEq] at h
        obtain ⟨rfl, rfl, rfl, rfl, rfl⟩ := h
        exact ⟨⟨hM, hL, ok_cons (ok_head hS) (ok_cons (ok_head (ok_tail hS)) hS), hG⟩, Nat.le_refl _, rfl⟩
    · cases h
  · -- 13
    split at h
    · simp only [Option.some.injEq, Prod.mk.injEq] at h
      obtain ⟨rfl, rfl, rfl, rfl, rfl⟩ := h
      exact ⟨⟨hM, hL, ok_tail hS, hG⟩, Nat.le_refl _, rfl⟩
    · cases h
  · -- 14
    split at h
    · simp only [Option.some.injEq, Prod.mk.injEq] at h
      obtain ⟨rfl, rfl, rfl, rfl, rfl⟩ := h
      exact ⟨⟨hM, hL, ok_tail (ok_tail hS), hG⟩, Nat.le_refl _, rfl⟩
    · cases h
  · -- 15
    split at h
    · split at h
      · simp only [Option.some.injEq, Prod.mk.injEq] at h
        obtain ⟨rfl, rfl, rfl, rfl, rfl⟩ := h
        exact ⟨⟨hM, hL, ok_tail hS, hG⟩, Nat.le_refl _, rfl⟩
      · cases h
    · cases h
  · -- 16
    split at h
    · split at h
      · simp only [Option.some.injEq, Prod.mk.injEq] at h
        obtain ⟨rfl, rfl, rfl, rfl, rfl⟩ := h
        exact ⟨⟨hM, hL, ok_tail hS, hG⟩, Nat.le_refl _, rfl⟩
      · cases h
    · cases h
  · -- 17
    split at h
    · split at h
      · simp only [Option.some.injEq, Prod.mk.injEq] at h
        obtain ⟨rfl, rfl, rfl, rfl, rfl⟩ := h
        exact ⟨⟨hM, hL, ok_tail (ok_tail hS), hG⟩, Nat.le_refl _, rfl⟩
      · cases h
    · cases h
  · -- 18
    simp only [Option.some.injEq, Prod.mk.injEq] at h
    obtain ⟨rfl, rfl, rfl, rfl, rfl⟩ := h
    exact ⟨⟨hM, hL, hS, hG⟩, Nat.le_refl _, rfl⟩
  · -- 19
    split at h
    · simp only [Option.some.injEq, Prod.mk.injEq] at h
      obtain ⟨rfl, rfl, rfl, rfl, rfl⟩ := h
      exact ⟨⟨hM, hL, ok_tail hS, hG⟩, Nat.le_refl _, rfl⟩
    · cases h
  · -- 21
    split at h
    · rename_i t k st0
      split at h
      · rename_i hk
        simp only [Option.some.injEq, Prod.mk.injEq] at h
        obtain ⟨rfl, rfl, rfl, rfl, rfl⟩ := h
        simp only [okI, Bool.and_eq_true] at hI
        obtain ⟨-, hb, ha⟩ := fl_any hI.2
        have hh := ok_head hS
        rw [hk.1] at hh
        have q := okM_fld hM hh hk.2 ha hb
        refine ⟨⟨hM, hL, ok_cons ?_ (ok_tail hS), hG⟩, Nat.le_refl _, rfl⟩
        show okV n (if ftF a b = 7 then 0 else ftF a b, σ k b)
        have q9 := ft_ok a ha b hb
        by_cases h10 : 10 ≤ ftF a b
        · rw [if_neg (by omega)]
          exact okV.r h10 (q.2 h10)
        · have h0 : (if ftF a b = 7 then 0 else ftF a b) = 0 := by
            split
            · rfl
            · rename_i h7
              unfold kTy at q9
              split at q9
              · assumption
              all_goals first | omega | (simp only [decide_eq_true_eq] at q9; omega)
          rw [h0]
          exact okV.i (q.1 (by omega))
      · cases h
    · cases h
  · -- 22
    split at h
    · rename_i t' x t k st0
      split at h
      · rename_i hk
        simp only [Option.some.injEq, Prod.mk.injEq] at h
        obtain ⟨rfl, rfl, rfl, rfl, rfl⟩ := h
        simp only [okI, Bool.and_eq_true, decide_eq_true_eq] at hI
        obtain ⟨-, hb, ha⟩ := fl_any hI.1.1.2
        have hh := ok_head (ok_tail hS)
        rw [hk.1] at hh
        obtain ⟨z1, z2, z3⟩ := okR_sh (hh.ref (by omega)) hk.2.1
        refine ⟨⟨okM_wrk hM hk.2.1 (fun _ i hi => ?_) (fun q => absurd q (by rw [z2]; omega)) (fun q => absurd q (by rw [z2]; omega)), hL, ok_tail (ok_tail hS), hG⟩, Nat.le_refl _, rfl⟩
        rw [z2, Nat.add_sub_cancel_left, show i = b by omega]
        have hx := ok_head hS
        have ht : t' = ftF a b := hk.2.2
        rw [ht] at hx
        refine ⟨fun q => ?_, fun q => hx.ref q⟩
        have q9 := ft_ok a ha b hb
        have h0 : ftF a b = 0 := by
          unfold kTy at q9
          split at q9
          · assumption
          all_goals first | omega | (simp only [decide_eq_true_eq] at q9; omega)
        rw [h0] at hx
        exact hx.int
      · cases h
    · cases h
  · -- 23
    split at h
    · rename_i x t k st0
      split at h
      · rename_i hk
        simp only [Option.some.injEq, Prod.mk.injEq] at h
        obtain ⟨rfl, rfl, rfl, rfl, rfl⟩ := h
        simp only [okI, Bool.and_eq_true, decide_eq_true_eq] at hI
        obtain ⟨-, hb, ha⟩ := fl_any hI.1.1.2
        have hh := ok_head (ok_tail hS)
        rw [hk.1] at hh
        obtain ⟨z1, z2, z3⟩ := okR_sh (hh.ref (by omega)) hk.2.1
        refine ⟨⟨okM_wrk hM hk.2.1 (fun _ i hi => ?_) (fun q => absurd q (by rw [z2]; omega)) (fun q => absurd q (by rw [z2]; omega)), hL, ok_tail (ok_tail hS), hG⟩, Nat.le_refl _, rfl⟩
        rw [z2, Nat.add_sub_cancel_left, show i = b by omega]
        exact ⟨fun _ => (ok_head hS).int, fun q => absurd hI.1.2 (by omega)⟩
      · cases h
    · cases h
  · -- 24
    split at h
    · rename_i i t k st0
      split at h
      · rename_i hk
        simp only [Option.some.injEq, Prod.mk.injEq] at h
        obtain ⟨rfl, rfl, rfl, rfl, rfl⟩ := h
        refine ⟨⟨hM, hL, ok_cons ?_ (ok_tail (ok_tail hS)), hG⟩, Nat.le_refl _, rfl⟩
        have hh := ok_head (ok_tail hS)
        have hk4 : i < lnF k := hk.2.2.2
        rw [hk.1] at hh
        simp only [okI, Bool.and_eq_true] at hI
        have hI := hI.1
        split at hI
        · simp only [Bool.and_eq_true, decide_eq_true_eq] at hI
          rw [hI.2]
          exact okV.i (okM_arr hM hh (by omega) (by omega) hk.2.1 hk.2.2.1 hk4)
        · simp only [Bool.and_eq_true, decide_eq_true_eq] at hI
          rw [hI.2]
          exact okV.i (okM_arr hM hh (by omega) (by omega) hk.2.1 hk.2.2.1 hk4)
        · simp only [Bool.and_eq_true, decide_eq_true_eq] at hI
          rw [hI.2]
          exact okV.i (okM_arr hM hh (by omega) (by omega) hk.2.1 hk.2.2.1 hk4)
        · simp only [Bool.and_eq_true, decide_eq_true_eq] at hI
          rw [hI.2]
          exact okV.r (by omega) (okM_rar hM hh (by omega) hk.2.1 hk.2.2.1 hk4)
        · simp only [Bool.and_eq_true, decide_eq_true_eq] at hI
          rw [hI.2]
          exact okV.r (by omega) (okM_rar hM hh (by omega) hk.2.1 hk.2.2.1 hk4)
        · cases hI
      · cases h
    · cases h
  · -- 28
    split at h
    · rename_i x i k st0
      split at h
      · rename_i hk
        simp only [Option.some.injEq, Prod.mk.injEq] at h
        obtain ⟨rfl, rfl, rfl, rfl, rfl⟩ := h
        obtain ⟨z1, z2, z3⟩ := okR_sh ((ok_head (ok_tail (ok_tail hS))).ref (by omega)) hk.1
        exact ⟨⟨okM_wrk hM hk.1 (fun q => absurd q (by omega)) (fun _ _ => (ok_head hS).int) (fun q => absurd q (by omega)), hL, ok_tail (ok_tail (ok_tail hS)), hG⟩, Nat.le_refl _, rfl⟩
      · cases h
    · cases h
  · -- 29
    split at h
    · rename_i x i k st0
      split at h
      · rename_i hk
        simp only [Option.some.injEq, Prod.mk.injEq] at h
        obtain ⟨rfl, rfl, rfl, rfl, rfl⟩ := h
        obtain ⟨z1, z2, z3⟩ := okR_sh ((ok_head (ok_tail (ok_tail hS))).ref (by omega)) hk.1
        exact ⟨⟨okM_wrk hM hk.1 (fun q => absurd q (by omega)) (fun _ _ => t32 _) (fun q => absurd q (by omega)), hL, ok_tail (ok_tail (ok_tail hS)), hG⟩, Nat.le_refl _, rfl⟩
      · cases h
    · cases h
  · -- 30
    split at h
    · rename_i x i k st0
      split at h
      · rename_i hk
        simp only [Option.some.injEq, Prod.mk.injEq] at h
        obtain ⟨rfl, rfl, rfl, rfl, rfl⟩ := h
        obtain ⟨z1, z2, z3⟩ := okR_sh ((ok_head (ok_tail (ok_tail hS))).ref (by omega)) hk.1
        exact ⟨⟨okM_wrk hM hk.1 (fun q => absurd q (by omega)) (fun _ _ => t32 _) (fun q => absurd q (by omega)), hL, ok_tail (ok_tail (ok_tail hS)), hG⟩, Nat.le_refl _, rfl⟩
      · cases h
    · cases h
  · -- 31
    split at h
    · rename_i t' x i t k st0
      split at h
      · rename_i hk
        simp only [Option.some.injEq, Prod.mk.injEq] at h
        obtain ⟨rfl, rfl, rfl, rfl, rfl⟩ := h
        obtain ⟨k1, k2, k3, k4, k5, k6⟩ := hk
        simp only [okI, Bool.and_eq_true, Bool.or_eq_true, decide_eq_true_eq] at hI
        have hab : 53 ≤ a ∧ elT a = b ∧ 10 ≤ b := by
          unfold elT
          rcases hI.2 with ⟨q1, q2⟩ | ⟨q1, q2⟩
          · rw [q1, q2]; simp
          · rw [q1, q2]; simp
        obtain ⟨z1, z2, z3⟩ := okR_sh ((ok_head (ok_tail (ok_tail hS))).ref (by omega)) k4
        refine ⟨⟨okM_wrk hM k4 (fun q => absurd q (by omega)) (fun _ q => absurd q (by omega)) (fun _ => ?_), hL, ok_tail (ok_tail (ok_tail hS)), hG⟩, Nat.le_refl _, rfl⟩
        rw [z2, k1, hab.2.1, ← k2]
        exact (ok_head hS).ref (by omega)
      · cases h
    · cases h
  · -- 32
    split at h
    · rename_i k st0
      split at h
      · rename_i hk
        simp only [Option.some.injEq, Prod.mk.injEq] at h
        obtain ⟨rfl, rfl, rfl, rfl, rfl⟩ := h
        obtain ⟨z1, z2, z3⟩ := okR_sh ((ok_head hS).ref (by omega)) hk
        refine ⟨⟨hM, hL, ok_cons (okV.i ?_) (ok_tail hS), hG⟩, Nat.le_refl _, rfl⟩
        show in32 (lnF k)
        have q := sh_ok k.toNat (by have := hM.1; omega)
        rw [z3] at q
        unfold in32
        omega
      · cases h
    · cases h
  · -- 33
    split at h
    · rename_i hk
      simp only [Option.some.injEq, Prod.mk.injEq] at h
      obtain ⟨rfl, rfl, rfl, rfl, rfl⟩ := h
      have hk : shF n = 10 + a := hk
      have hn := sh_lt (n := n) (by omega)
      simp only [okI, Bool.and_eq_true, decide_eq_true_eq] at hI
      have ha := hI.2
      refine ⟨⟨okM_mk hM hn (fun _ i => ?_) (fun q => absurd q (by omega)) (fun q => absurd q (by omega)), fun x hx => (hL x hx).imp id (fun q => q.mono (by omega)), ok_cons (okV.r (by omega) (Or.inr ⟨by omega, by omega, by rw [Int.toNat_natCast]; exact hk⟩)) (fun x hx => (hS x hx).mono (by omega)), hG⟩, by omega, rfl⟩
      rw [hk, Nat.add_sub_cancel_left]
      unfold dfl
      rw [Int.toNat_natCast]
      exact ⟨fun q => by rw [if_neg (by show ¬ 10 ≤ ftF a i; omega)]; exact z32, fun q => if_pos q⟩
    · cases h
  · -- 34
    split at h
    · rename_i x st0
      split at h
      · rename_i hk
        simp only [Option.some.injEq, Prod.mk.injEq] at h
        obtain ⟨rfl, rfl, rfl, rfl, rfl⟩ := h
        have hk1 : shF n = a := hk.1
        have ha : 50 ≤ a ∧ a < 53 := by
          simp only [okI, Bool.and_eq_true] at hI
          have hI := hI.1
          split at hI
          · omega
          · omega
          · omega
          · cases hI
        have hn := sh_lt (n := n) (by omega)
        exact ⟨⟨okM_mk hM hn (fun q => absurd q (by omega)) (fun _ _ _ => z32) (fun q => absurd q (by omega)), fun x hx => (hL x hx).imp id (fun q => q.mono (by omega)), ok_cons (okV.r (by omega) (Or.inr ⟨by omega, by omega, by rw [Int.toNat_natCast]; exact hk1⟩)) (fun x hx => (ok_tail hS x hx).mono (by omega)), hG⟩, by omega, rfl⟩
      · cases h
    · cases h
  · -- 35
    split at h
    · rename_i x st0
      split at h
      · rename_i hk
        simp only [Option.some.injEq, Prod.mk.injEq] at h
        obtain ⟨rfl, rfl, rfl, rfl, rfl⟩ := h
        have hk1 : shF n = a := hk.1
        have ha : 53 ≤ a := by
          simp only [okI, Bool.and_eq_true, Bool.or_eq_true, decide_eq_true_eq] at hI
          rcases hI.2 with q | q <;> omega
        have hn := sh_lt (n := n) (by omega)
        exact ⟨⟨okM_mk hM hn (fun q => absurd q (by omega)) (fun _ q => absurd q (by omega)) (fun _ _ => rfl), fun x hx => (hL x hx).imp id (fun q => q.mono (by omega)), ok_cons (okV.r (by omega) (Or.inr ⟨by omega, by omega, by rw [Int.toNat_natCast]; exact hk1⟩)) (fun x hx => (ok_tail hS x hx).mono (by omega)), hG⟩, by omega, rfl⟩
      · cases h
    · cases h
  · -- 37
    split at h
    · split at h
      · simp only [Option.some.injEq, Prod.mk.injEq] at h
        obtain ⟨rfl, rfl, rfl, rfl, rfl⟩ := h
        exact ⟨⟨hM, hL, ok_tail hS, hG⟩, Nat.le_refl _, rfl⟩
      · cases h
    · cases h
  · -- 43
    simp only [Option.some.injEq, Prod.mk.injEq] at h
    obtain ⟨rfl, rfl, rfl, rfl, rfl⟩ := h
    simp only [okI, Bool.and_eq_true] at hI
    obtain ⟨e, he, h2⟩ := List.any_eq_true.mp hI.2
    simp only [decide_eq_true_eq] at h2
    have q : ∀ e ∈ stL, e.2.2 < 7 := by decide +kernel
    have q := q e he
    exact ⟨⟨hM, hL, ok_cons (Or.inr (Or.inr (Or.inl ⟨rfl, by show (0 : Int) ≤ v; omega, by show v < 7; omega⟩))) hS, hG⟩, Nat.le_refl _, rfl⟩
  · -- 44
    split at h
    · rename_i k st0
      split at h
      · simp only [Option.some.injEq, Prod.mk.injEq] at h
        obtain ⟨rfl, rfl, rfl, rfl, rfl⟩ := h
        have q := (ok_head hS).str
        have q2 := (sc_ok k.toNat (by omega)).1
        rw [show ((k.toNat : Nat) : Int) = k by omega] at q2
        exact ⟨⟨hM, hL, ok_cons (okV.i q2) (ok_tail hS), hG⟩, Nat.le_refl _, rfl⟩
      · cases h
    · cases h
  · -- 45
    split at h
    · rename_i i k st0
      split at h
      · rename_i hk
        simp only [Option.some.injEq, Prod.mk.injEq] at h
        obtain ⟨rfl, rfl, rfl, rfl, rfl⟩ := h
        have q := (ok_head (ok_tail hS)).str
        have q1 := sl_le k.toNat (by omega)
        rw [show ((k.toNat : Nat) : Int) = k by omega] at q1
        have hk2 : i < slF k := hk.2.1
        have q2 := (sc_ok k.toNat (by omega)).2 i.toNat (by omega)
        rw [show ((k.toNat : Nat) : Int) = k by omega, show ((i.toNat : Nat) : Int) = i by omega] at q2
        exact ⟨⟨hM, hL, ok_cons (okV.i q2) (ok_tail (ok_tail hS)), hG⟩, Nat.le_refl _, rfl⟩
      · cases h
    · cases h
  · -- 46
    split at h
    · rename_i c dp k2 sp k1 st0
      split at h
      · rename_i hk
        simp only [Option.some.injEq, Prod.mk.injEq] at h
        obtain ⟨rfl, rfl, rfl, rfl, rfl⟩ := h
        obtain ⟨c1, c2, c3, c4, c5, c6, c7, c8, c9⟩ := hk
        obtain ⟨z1, z2, z3⟩ := okR_sh ((ok_head (ok_tail (ok_tail (ok_tail (ok_tail hS))))).ref (by omega)) c1
        obtain ⟨y1, y2, y3⟩ := okR_sh ((ok_head (ok_tail (ok_tail hS))).ref (by omega)) c2
        have q := okM_cp (k1 := k1.toNat) (k2 := k2.toNat) (sp := sp) (dp := dp) (c := c) hM z1 z2 y2 c5 (by rw [z3]; exact c7)
        rw [z3, y3] at q
        exact ⟨⟨q, hL, ok_tail (ok_tail (ok_tail (ok_tail (ok_tail hS)))), hG⟩, Nat.le_refl _, rfl⟩
      · cases h
    · cases h
  · -- 47
    split at h
    · split at h
      · simp only [Option.some.injEq, Prod.mk.injEq] at h
        obtain ⟨rfl, rfl, rfl, rfl, rfl⟩ := h
        exact ⟨⟨hM, hL, ok_cons (okV.i (hM.2.1 _)) (ok_tail (ok_tail hS)), hG⟩, Nat.le_refl _, rfl⟩
      · cases h
    · cases h
  · -- 48
    split at h
    · simp only [Option.some.injEq, Prod.mk.injEq] at h
      obtain ⟨rfl, rfl, rfl, rfl, rfl⟩ := h
      exact ⟨⟨hM, hL, ok_cons (okV.i (hM.2.1 _)) (ok_tail hS), hG⟩, Nat.le_refl _, rfl⟩
    · cases h
  · -- 49
    split at h
    · split at h
      · simp only [Option.some.injEq, Prod.mk.injEq] at h
        obtain ⟨rfl, rfl, rfl, rfl, rfl⟩ := h
        refine ⟨⟨hM, hL, ok_cons (okV.i ?_) (ok_tail (ok_tail hS)), hG⟩, Nat.le_refl _, rfl⟩
        have q1 := (ok_head hS).int
        have q2 := (ok_head (ok_tail hS)).int
        split
        · split <;> assumption
        · split <;> assumption
      · cases h
    · cases h
  · cases h
