/-! hearing and move -/
set_option maxHeartbeats 2000000 in
theorem sumN_add {f g : Int → Int} {m : Nat} : sumN (fun i => f i + g i) m = sumN f m + sumN g m := by
  induction m with
  | zero => rfl
  | succ m ih => rw [sumN_s, sumN_s, sumN_s, ih]; omega
theorem sumN_pt {h : Int} (m : Nat) : sumN (fun i => if i = h then 1 else 0) m ≤ 1 ∧ ((m : Int) ≤ h → sumN (fun i => if i = h then 1 else 0) m = 0) := by
  induction m with
  | zero => exact ⟨by show (0 : Int) ≤ 1; omega, fun _ => rfl⟩
  | succ m ih =>
    rw [sumN_s]
    by_cases e : (m : Int) = h
    · have := ih.2 (by omega)
      rw [if_pos e]
      exact ⟨by omega, fun q => by omega⟩
    · rw [if_neg e]
      exact ⟨by omega, fun q => by have := ih.2 (by omega); omega⟩
theorem cnC {a b : Mem} {n : Nat} (h : IH a b n) {y e : Int} (he : e < 0) : sumN (fun i => if a (114 + i) 5 = y ∧ a (114 + i) 7 = 0 ∧ ¬ 114 + i = e then 1 else 0) (a 14 1).toNat = ((dlN (lvC a y) (a 14 1).toNat).length : Int) := by
  rw [dlN_len]
  refine sumN_congr (fun i hi => ?_)
  show (if a (114 + (i : Int)) 5 = y ∧ a (114 + (i : Int)) 7 = 0 ∧ ¬ 114 + (i : Int) = e then (1 : Int) else 0) = if lvC a y (i : Int) = true then 1 else 0
  unfold lvC
  by_cases q : a (114 + (i : Int)) 5 = y ∧ a (114 + (i : Int)) 7 = 0
  · rw [if_pos ⟨q.1, q.2, by omega⟩, if_pos (decide_eq_true q)]
  · rw [if_neg (fun z => q ⟨z.1, z.2.1⟩), if_neg (fun z => q (of_decide_eq_true z))]
theorem cnM {a b : Mem} {n : Nat} (h : IH a b n) {y e : Int} : sumN (fun i => if b 80 i = y ∧ b 86 i < 0 ∧ ¬ i = e then 1 else 0) (a 14 1).toNat = sumN (fun i => if a (114 + i) 5 = y ∧ a (114 + i) 7 = 0 ∧ ¬ 114 + i = 114 + e then 1 else 0) (a 14 1).toNat := sumN_congr (fun i hi => by
  have q := (h.2.2.2.1 i (by omega) (by omega)).2
  have q1 := q.1.2.1
  have q2 := q.2.1
  show (if b 80 (i : Int) = y ∧ b 86 (i : Int) < 0 ∧ ¬ (i : Int) = e then (1 : Int) else 0) = if a (114 + (i : Int)) 5 = y ∧ a (114 + (i : Int)) 7 = 0 ∧ ¬ 114 + (i : Int) = 114 + e then 1 else 0
  by_cases e1 : b 80 (i : Int) = y ∧ b 86 (i : Int) < 0 ∧ ¬ (i : Int) = e
  · rw [if_pos e1, if_pos (by omega)]
  · rw [if_neg e1, if_neg (by omega)])
theorem o_hearing {X : Int → Int} {w y b l t g r : Int} : OP X 94 135 0 [(0, w), (0, y), (0, b), (0, l), (0, t), (0, g), (0, r)] := fun σ n hI => by
  have hH := hI.h
  obtain ⟨h1, h2, h3, h4, h5⟩ := hI.h
  have hb : 0 ≤ σ 69 12 ∧ σ 69 12 ≤ 24 := by rw [← h2]; exact ⟨h1.1, h1.2.1⟩
  have n1 := h1.1
  have n2 := h1.2.1
  have c1 := cnC hH (y := y) (e := -1) (by decide)
  have c2 : sumN (fun i => if σ 80 i = y ∧ σ 86 i < 0 ∧ ¬ i = -1 then 1 else 0) (σ 14 1).toNat = ((dlN (lvC σ y) (σ 14 1).toNat).length : Int) := by
    rw [cnM hH (y := y) (e := -1), ← c1]
    refine sumN_congr (fun i hi => ?_)
    show (if σ (114 + (i : Int)) 5 = y ∧ σ (114 + (i : Int)) 7 = 0 ∧ ¬ 114 + (i : Int) = 114 + -1 then (1 : Int) else 0) = if σ (114 + (i : Int)) 5 = y ∧ σ (114 + (i : Int)) 7 = 0 ∧ ¬ 114 + (i : Int) = -1 then 1 else 0
    by_cases e1 : σ (114 + (i : Int)) 5 = y ∧ σ (114 + (i : Int)) 7 = 0
    · rw [if_pos ⟨e1.1, e1.2, by omega⟩, if_pos ⟨e1.1, e1.2, by omega⟩]
    · rw [if_neg (fun z => e1 ⟨z.1, z.2.1⟩), if_neg (fun z => e1 ⟨z.1, z.2.1⟩)]
  have h5y := h5 y
  refine s_hearing (d := 16) hI.g h1 h3 (fun c τ hN => ⟨_, rfl, fun j => ?_, ?_⟩) (fun c => ⟨_, rfl, hI.s, ?_⟩)
  · rw [hN.1 _ _ (by omega) (by omega) (by omega)]; exact hI.s j
  · rw [c1] at c
    obtain ⟨F1, N1, N2, v0, v1, v2, v3, v4, v5, v6, v7, v9, v10⟩ := hN
    have hg : GR τ := GR.fr (fun c j => (decide (c = 14) && decide (j = 1)) || (decide (c = 15) || decide (114 ≤ c))) hI.g (fun c j q => F1 c j (fun z => by simp [z] at q; omega) (fun z => by simp [z.1, z.2] at q) (fun z => by simp [z.1] at q)) (by decide)
    have e12 : τ 69 12 = σ 14 1 := by rw [F1 _ _ (by omega) (by omega) (by omega)]; exact h2.symm
    have e80 : τ 80 = σ 80 := funext fun j => F1 _ _ (by omega) (by omega) (by omega)
    have e86 : τ 86 = σ 86 := funext fun j => F1 _ _ (by omega) (by omega) (by omega)
    refine m_hearing (d := 17) hg (by rw [e12]; exact ⟨n1, n2⟩) (by rw [e12, e80, e86, c2]; omega) (fun c' => ?_) (fun c' => absurd (by rw [e12, e80, e86, c2]; exact c) c')
    clear c' c2 c1
    rw [e12]
    clear e12 e80 e86
    generalize hs : σ 14 1 = s at *
    have F2 : ∀ c j, ¬ (c = 69 ∧ j = 12) → ¬ (79 ≤ c ∧ c ≤ 89 ∧ j = s) → (wrM (wrM (wrM (wrM (wrM (wrM (wrM (wrM (wrM (wrM (wrM (wrM τ 69 12 (s + 1)) 79 s w) 80 s y) 81 s b) 82 s l) 83 s t) 84 s g) 85 s r) 86 s (-1)) 87 s (-1)) 88 s (-1)) 89 s (-1)) c j = τ c j := fun c j q1 q2 => by
      rw [wr_j (by omega), wr_j (by omega), wr_j (by omega), wr_j (by omega), wr_j (by omega), wr_j (by omega), wr_j (by omega), wr_j (by omega), wr_j (by omega), wr_j (by omega), wr_j (by omega), wr_j (by omega)]
    have V : (wrM (wrM (wrM (wrM (wrM (wrM (wrM (wrM (wrM (wrM (wrM (wrM τ 69 12 (s + 1)) 79 s w) 80 s y) 81 s b) 82 s l) 83 s t) 84 s g) 85 s r) 86 s (-1)) 87 s (-1)) 88 s (-1)) 89 s (-1)) 69 12 = s + 1 := by simp (disch := decide) only [wr_ne, wr_same]
    have V2 : ∀ ρ, ρ = (wrM (wrM (wrM (wrM (wrM (wrM (wrM (wrM (wrM (wrM (wrM (wrM τ 69 12 (s + 1)) 79 s w) 80 s y) 81 s b) 82 s l) 83 s t) 84 s g) 85 s r) 86 s (-1)) 87 s (-1)) 88 s (-1)) 89 s (-1)) → ρ 79 s = w ∧ ρ 80 s = y ∧ ρ 81 s = b ∧ ρ 82 s = l ∧ ρ 83 s = t ∧ ρ 84 s = g ∧ ρ 85 s = r ∧ ρ 86 s = -1 ∧ ρ 87 s = -1 ∧ ρ 88 s = -1 ∧ ρ 89 s = -1 := fun ρ e => by
      rw [e]
      simp (disch := decide) only [wr_ne, wr_same]
      exact ⟨trivial, trivial, trivial, trivial, trivial, trivial, trivial, trivial, trivial, trivial, trivial⟩
    have hg2 : GR (wrM (wrM (wrM (wrM (wrM (wrM (wrM (wrM (wrM (wrM (wrM (wrM τ 69 12 (s + 1)) 79 s w) 80 s y) 81 s b) 82 s l) 83 s t) 84 s g) 85 s r) 86 s (-1)) 87 s (-1)) 88 s (-1)) 89 s (-1)) := (GR.wrk (GR.wrk (GR.wrk (GR.wrk (GR.wrk (GR.wrk (GR.wrk (GR.wrk (GR.wrk (GR.wrk (GR.wrk (GR.wr hg (by decide)) (by decide)) (by decide)) (by decide)) (by decide)) (by decide)) (by decide)) (by decide)) (by decide)) (by decide)) (by decide)) (by decide))
    generalize (wrM (wrM (wrM (wrM (wrM (wrM (wrM (wrM (wrM (wrM (wrM (wrM τ 69 12 (s + 1)) 79 s w) 80 s y) 81 s b) 82 s l) 83 s t) 84 s g) 85 s r) 86 s (-1)) 87 s (-1)) 88 s (-1)) 89 s (-1)) = ρ at *
    obtain ⟨u79, u80, u81, u82, u83, u84, u85, u86, u87, u88, u89⟩ := V2 ρ rfl
    clear V2
    have F : ∀ c j, ¬ (c = 114 + s ∨ (c = 14 ∧ j = 1) ∨ (c = 15 ∧ j = s) ∨ (c = 69 ∧ j = 12) ∨ (79 ≤ c ∧ c ≤ 89 ∧ j = s)) → ρ c j = σ c j := fun c j q => by rw [F2 c j (by omega) (by omega)]; exact F1 c j (by omega) (by omega) (by omega)
    have G : ∀ j, ρ (114 + s) j = τ (114 + s) j := fun j => F2 _ _ (by omega) (by omega)
    have r1 : ρ 14 1 = s + 1 := by rw [F2 _ _ (by omega) (by omega)]; exact N1
    have r2 : ρ 15 s = 114 + s := by rw [F2 _ _ (by omega) (by omega)]; exact N2
    rw [← G] at v0 v1 v2 v3 v4 v5 v6 v7 v9 v10
    clear F1 F2 N1 N2 G hg
    refine ⟨rfl, hg2, fun j => by rw [F _ _ (by omega)]; exact hI.s j, (hI.w.fr (fun c j q => F c j (by omega)) (fun c j q => F c j (by omega))), (hI.p.fr (fun c j q => F c j (by omega)) (fun c j q => F c j (by omega))), (hI.a.fr (fun c j q => F c j (by omega)) (fun c j q => F c j (by omega))), ⟨⟨by omega, by omega, fun i i0 i1 => ?_⟩, by rw [r1, V], by rw [r1]; omega, fun k k0 k1 => ?_, fun y' => ?_⟩, (hI.l.fr (fun c j q => F c j (by omega)) (fun c j q => F c j (by omega))), (hI.t.fr (fun c j q => F c j (by omega)) (fun c j q => F c j (by omega))), (hI.f.fr (fun c j q => F c j (by omega)) (fun c j q => F c j (by omega))), (hI.q.fr (fun c j q => F c j (by omega)) (fun c j q => F c j (by omega)))⟩
    · by_cases e : i = s
      · rw [e, r2]
      · rw [F _ _ (by omega)]; exact h1.2.2 i i0 (by omega)
    · by_cases e : k = s
      · rw [e]
        refine ⟨?_, ?_⟩
        · unfold HC; rw [v0, v1, v2, v3, v4, v5, v6]; omega
        · unfold HE; rw [v0, v1, v2, v3, v4, v5, v6, v7, v9, v10, u79, u80, u81, u82, u83, u84, u85, u86, u87, u88]
          exact ⟨⟨rfl, rfl, rfl, rfl, rfl, rfl, rfl⟩, Or.inl ⟨rfl, by omega⟩, ⟨rfl, rfl⟩, fun z => absurd rfl z⟩
      · have hk := h4 k k0 (by omega)
        exact ⟨hk.1.fr2 (fun j => F _ _ (by omega)), hk.2.fr (fun j => F _ _ (by omega)) (fun c _ _ => F _ _ (by omega))⟩
    · have e0 : (ρ 14 1).toNat = s.toNat + 1 := by rw [r1]; omega
      have e1 : dlN (lvC ρ y') s.toNat = dlN (lvC σ y') s.toNat := dlN_congr _ (fun i hi => by unfold lvC; rw [F _ _ (by omega), F _ _ (by omega)])
      rw [e0, dlN_s, e1, List.length_append]
      have q := h5 y'
      by_cases ey : y' = y
      · rw [ey]
        have : (if lvC ρ y ((s.toNat : Nat) : Int) = true then [((s.toNat : Nat) : Int)] else []).length ≤ 1 := by split <;> simp
        omega
      · rw [if_neg (fun z => by unfold lvC at z; rw [show ((s.toNat : Nat) : Int) = s by omega, v5] at z; exact ey (of_decide_eq_true z).1.symm)]
        simpa using q
  · refine m_hearing (d := 17) hI.g hb (by rw [← h2, c2]; omega) (fun c' => absurd ?_ c) (fun _ => ⟨rfl, hI⟩)
    rw [← h2, c2] at c'
    rw [c1]
    exact c'
theorem o_move {X : Int → Int} {h y b : Int} : OP X 95 137 0 [(0, h), (0, y), (0, b)] := fun σ n hI => by
  have hH := hI.h
  obtain ⟨h1, h2, h3, h4, h5⟩ := hI.h
  have hb : 0 ≤ σ 69 12 ∧ σ 69 12 ≤ 24 := by rw [← h2]; exact ⟨h1.1, h1.2.1⟩
  have n1 := h1.1
  have n2 := h1.2.1
  have hz : Zsub (σ 69 12) 1 = σ 69 12 - 1 := Zs1 (by omega)
  have c2 := cnM hH (y := y) (e := h)
  refine s_move (d := 16) hI.g h1 (fun c => ⟨_, rfl, fun j => ?_, ?_⟩) (fun c => ⟨_, rfl, hI.s, ?_⟩)
  · rw [wr_ne (by omega), wr_ne (by omega)]; exact hI.s j
  · have hh := h4 h c.1.1 c.1.2
    have hg : GR (wrM (wrM σ (114 + h) 5 y) (114 + h) 6 b) := GR.hi hI.g (fun c' j q => by rw [wr_ne (by omega), wr_ne (by omega)])
    have f1 : ∀ c j, ¬ (c = 114 + h ∧ (j = 5 ∨ j = 6)) → wrM (wrM σ (114 + h) 5 y) (114 + h) 6 b c j = σ c j := fun c j q => by rw [wr_j (by omega), wr_j (by omega)]
    have v5 : wrM (wrM σ (114 + h) 5 y) (114 + h) 6 b (114 + h) 5 = y := by rw [wr_nej (by decide), wr_same]
    have v6 : wrM (wrM σ (114 + h) 5 y) (114 + h) 6 b (114 + h) 6 = b := wr_same
    generalize wrM (wrM σ (114 + h) 5 y) (114 + h) 6 b = τ at *
    have e12 : τ 69 12 = σ 14 1 := by rw [f1 _ _ (by omega)]; exact h2.symm
    have e80 : τ 80 = σ 80 := funext fun j => f1 _ _ (by omega)
    have e86 : τ 86 = σ 86 := funext fun j => f1 _ _ (by omega)
    have e82 : τ 82 h = σ (114 + h) 1 := by rw [f1 _ _ (by omega)]; exact hh.2.1.2.2.2.1
    have h86 := hh.2.2.1
    have hl := hh.1.2.1
    refine m_move (d := 17) hg (by rw [e12]; exact ⟨n1, n2⟩) (by rw [e12, h2]; exact hz) (fun _ => by rw [e82]; omega) (fun c' => ?_) (fun c' => absurd (by rw [e12, e80, e86, e82, c2]; omega) c')
    clear c' c2 e12 e80 e86 e82
    have f2 : ∀ c j, ¬ (80 ≤ c ∧ c ≤ 81 ∧ j = h) → wrM (wrM τ 80 h y) 81 h b c j = τ c j := fun c j q => by rw [wr_j (by omega), wr_j (by omega)]
    have v80 : wrM (wrM τ 80 h y) 81 h b 80 h = y := by rw [wr_ne (by decide), wr_same]
    have v81 : wrM (wrM τ 80 h y) 81 h b 81 h = b := wr_same
    have hg2 : GR (wrM (wrM τ 80 h y) 81 h b) := GR.wrk (GR.wrk hg (by decide)) (by decide)
    generalize wrM (wrM τ 80 h y) 81 h b = ρ at *
    have F : ∀ c j, ¬ ((c = 114 + h ∧ (j = 5 ∨ j = 6)) ∨ (80 ≤ c ∧ c ≤ 81 ∧ j = h)) → ρ c j = σ c j := fun c j q => by rw [f2 c j (by omega)]; exact f1 c j (by omega)
    have r5 : ρ (114 + h) 5 = y := by rw [f2 _ _ (by omega)]; exact v5
    have r6 : ρ (114 + h) 6 = b := by rw [f2 _ _ (by omega)]; exact v6
    clear f1 f2 v5 v6 hg
    refine ⟨rfl, hg2, fun j => by rw [F _ _ (by omega)]; exact hI.s j, (hI.w.fr (fun c j q => F c j (by omega)) (fun c j q => F c j (by omega))), (hI.p.fr (fun c j q => F c j (by omega)) (fun c j q => F c j (by omega))), (hI.a.fr (fun c j q => F c j (by omega)) (fun c j q => F c j (by omega))), ⟨?_, ?_, ?_, fun k k0 k1 => ?_, fun y' => ?_⟩, (hI.l.fr (fun c j q => F c j (by omega)) (fun c j q => F c j (by omega))), (hI.t.fr (fun c j q => F c j (by omega)) (fun c j q => F c j (by omega))), (hI.f.fr (fun c j q => F c j (by omega)) (fun c j q => F c j (by omega))), (hI.q.fr (fun c j q => F c j (by omega)) (fun c j q => F c j (by omega)))⟩
    · refine ⟨by rw [F _ _ (by omega)]; exact h1.1, by rw [F _ _ (by omega)]; exact h1.2.1, fun i i0 i1 => ?_⟩
      rw [F 14 1 (by omega)] at i1
      rw [F _ _ (by omega)]; exact h1.2.2 i i0 i1
    · rw [F _ _ (by omega), F _ _ (by omega)]; exact h2
    · rw [F _ _ (by omega)]; exact h3
    · rw [F 14 1 (by omega)] at k1
      have hk := h4 k k0 k1
      by_cases e : k = h
      · subst e
        refine ⟨?_, ?_⟩
        · unfold HC
          rw [r5, r6, F _ 0 (by omega), F _ 1 (by omega), F _ 2 (by omega), F _ 3 (by omega), F _ 4 (by omega)]
          have := hk.1
          unfold HC at this
          omega
        · unfold HE
          rw [r5, r6, v80, v81, F 79 _ (by omega), F 82 _ (by omega), F 83 _ (by omega), F 84 _ (by omega), F 85 _ (by omega), F 86 _ (by omega), F 87 _ (by omega), F 88 _ (by omega), F 89 _ (by omega), F _ 0 (by omega), F _ 1 (by omega), F _ 2 (by omega), F _ 3 (by omega), F _ 4 (by omega), F _ 7 (by omega), F _ 8 (by omega), F _ 9 (by omega), F _ 10 (by omega)]
          exact ⟨⟨hk.2.1.1, rfl, rfl, hk.2.1.2.2.2⟩, hk.2.2⟩
      · exact ⟨hk.1.fr2 (fun j => F _ _ (by omega)), hk.2.fr (fun j => F _ _ (by omega)) (fun c _ _ => F _ _ (by omega))⟩
    · rw [F 14 1 (by omega)]
      have q := h5 y'
      have ne : ∀ i : Nat, ¬ (i : Int) = h → lvC ρ y' (i : Int) = lvC σ y' (i : Int) := fun i e => by unfold lvC; rw [F _ _ (by omega), F _ _ (by omega)]
      by_cases ey : y' = y
      · have q2 : ((dlN (lvC ρ y') (σ 14 1).toNat).length : Int) ≤ sumN (fun i => (if σ (114 + i) 5 = y ∧ σ (114 + i) 7 = 0 ∧ ¬ 114 + i = 114 + h then 1 else 0) + if i = h then 1 else 0) (σ 14 1).toNat := by
          rw [dlN_len]
          refine sumN_le (fun i hi => ?_)
          show (if lvC ρ y' (i : Int) = true then (1 : Int) else 0) ≤ (if σ (114 + (i : Int)) 5 = y ∧ σ (114 + (i : Int)) 7 = 0 ∧ ¬ 114 + (i : Int) = 114 + h then 1 else 0) + if (i : Int) = h then 1 else 0
          by_cases e : (i : Int) = h
          · rw [if_pos e]; split <;> split <;> omega
          · rw [if_neg e, ne i e]
            unfold lvC
            by_cases e3 : σ (114 + (i : Int)) 5 = y' ∧ σ (114 + (i : Int)) 7 = 0
            · rw [if_pos (decide_eq_true e3), if_pos ⟨by rw [e3.1, ey], e3.2, by omega⟩]; omega
            · rw [if_neg (fun z => e3 (of_decide_eq_true z))]; split <;> omega
        rw [sumN_add] at q2
        have q3 := (sumN_pt (h := h) (σ 14 1).toNat).1
        have q4 := c.2.2.2
        omega
      · have q2 : ((dlN (lvC ρ y') (σ 14 1).toNat).length : Int) ≤ ((dlN (lvC σ y') (σ 14 1).toNat).length : Int) := by
          rw [dlN_len, dlN_len]
          refine sumN_le (fun i hi => ?_)
          show (if lvC ρ y' (i : Int) = true then (1 : Int) else 0) ≤ if lvC σ y' (i : Int) = true then 1 else 0
          by_cases e : (i : Int) = h
          · rw [if_neg (by unfold lvC; rw [e, r5, decide_eq_true_iff]; omega)]; split <;> omega
          · rw [ne i e]; exact Int.le_refl _
        omega
  · refine m_move (d := 17) hI.g hb hz (fun c' => by have := h4 h c'.1 (by omega); have e := this.2.1.2.2.2.1; have := this.1.2.1; omega) (fun c' => absurd ?_ c) (fun _ => ⟨rfl, hI⟩)
    rw [← h2, c2] at c'
    have hh := h4 h c'.1.1 c'.1.2
    have h86 := hh.2.2.1
    have hl := hh.1.2.1
    have e82 := hh.2.1.2.2.2.1
    refine ⟨c'.1, by omega, ⟨c'.2.2.1.1, c'.2.2.1.2.1, hl, by omega⟩, c'.2.2.2⟩
