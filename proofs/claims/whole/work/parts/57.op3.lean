/-! hearings and the tape -/
set_option maxHeartbeats 2000000 in
theorem GR.hi {σ τ : Mem} (h : GR σ) (hf : ∀ c j, ¬ 114 ≤ c → τ c j = σ c j) : GR τ := GR.fr (fun c _ => decide (114 ≤ c)) h (fun c j q => hf c j (by simpa using q)) (by decide)
theorem sumN_le {f g : Int → Int} {m : Nat} (h : ∀ i : Nat, i < m → f i ≤ g i) : sumN f m ≤ sumN g m := by
  induction m with
  | zero => exact Int.le_refl _
  | succ m ih =>
    rw [sumN_s, sumN_s]
    have a := ih (fun i hi => h i (by omega))
    have b := h m (by omega)
    omega
theorem nar_b (v : Int) : -128 ≤ Zbnar (Zi2b v) ∧ Zbnar (Zi2b v) ≤ 127 := by
  unfold Zbnar
  show -128 ≤ (Int32.ofInt (Zi2b v)).toInt8.toInt32.toInt ∧ (Int32.ofInt (Zi2b v)).toInt8.toInt32.toInt ≤ 127
  rw [Int8.toInt_toInt32]
  have h1 := Int8.le_toInt (Int32.ofInt (Zi2b v)).toInt8
  have h2 := Int8.toInt_lt (Int32.ofInt (Zi2b v)).toInt8
  omega
theorem tp_b {T c f v sh : Int} {σ : Mem} (hT : ¬ T = c) (h : ∀ x, -128 ≤ σ T x ∧ σ T x ≤ 127) : ∀ x, -128 ≤ tp T c f v sh σ T x ∧ tp T c f v sh σ T x ≤ 127 := fun x => by
  unfold tp
  rw [wr_ne hT, wr_c]
  split
  · exact nar_b _
  · exact h x
theorem tp4_b {T c f v : Int} {σ : Mem} (hT : ¬ T = c) (h : ∀ x, -128 ≤ σ T x ∧ σ T x ≤ 127) : ∀ x, -128 ≤ tp4 T c f v σ T x ∧ tp4 T c f v σ T x ≤ 127 := tp_b hT (tp_b hT (tp_b hT (tp_b hT h)))
theorem fd5_b {T c f a b p e g : Int} {σ : Mem} (hT : ¬ T = c) (h : ∀ x, -128 ≤ σ T x ∧ σ T x ≤ 127) : ∀ x, -128 ≤ fd5 T c f a b p e g σ T x ∧ fd5 T c f a b p e g σ T x ≤ 127 := tp4_b hT (tp4_b hT (tp4_b hT (tp4_b hT (tp4_b hT h))))
theorem fd5_sz {T c f a b p e g : Int} {σ : Mem} (h : 0 ≤ σ c f) (h2 : σ c f + 20 ≤ 600) : fd5 T c f a b p e g σ c f = σ c f + 20 := by
  unfold fd5
  have e1 := @tp4_sz T c f a σ (by omega) (by omega)
  generalize tp4 T c f a σ = σ1 at *
  have e2 := @tp4_sz T c f b σ1 (by omega) (by omega)
  generalize tp4 T c f b σ1 = σ2 at *
  have e3 := @tp4_sz T c f p σ2 (by omega) (by omega)
  generalize tp4 T c f p σ2 = σ3 at *
  have e4 := @tp4_sz T c f e σ3 (by omega) (by omega)
  generalize tp4 T c f e σ3 = σ4 at *
  have e5 := @tp4_sz T c f g σ4 (by omega) (by omega)
  omega
theorem o_feed {X : Int → Int} {a b p e g : Int} : OP X 104 161 0 [(0, a), (0, b), (0, p), (0, e), (0, g)] := fun σ n hI => by
  obtain ⟨t1, t2, t3, t4⟩ := hI.t
  refine s_feed (d := 18) hI.g t2.1 (fun c => ⟨_, rfl, fun j => ?_, ?_⟩) (fun c => ⟨_, rfl, hI.s, ?_⟩)
  · rw [fd5_o (by decide) (by decide)]; exact hI.s j
  · have hg : GR (fd5 51 50 3 a b p e g σ) := tp4_GR (tp4_GR (tp4_GR (tp4_GR (tp4_GR hI.g))))
    have f1 : ∀ c j, ¬ c = 51 → ¬ (c = 50 ∧ j = 3) → fd5 51 50 3 a b p e g σ c j = σ c j := fun c j h1 h2 => by
      by_cases e : c = 50
      · exact fd5_f h1 (fun z => h2 ⟨e, z⟩)
      · exact fd5_o h1 e
    have r1 : TR σ σ := ⟨t1, t3⟩
    have r2 : ∀ τ : Mem, TR σ τ → TR (fd5 51 50 3 a b p e g σ) (fd5 98 69 40 a b p e g τ) := fun τ h => TR_fd5 h
    have z1 : fd5 51 50 3 a b p e g σ 50 3 = σ 50 3 + 20 := fd5_sz t2.1.1 c
    have b1 := fd5_b (T := 51) (c := 50) (f := 3) (a := a) (b := b) (p := p) (e := e) (g := g) (by decide) t2.2
    generalize fd5 51 50 3 a b p e g σ = τ at *
    have e40 : τ 69 40 = σ 69 40 := f1 69 40 (by decide) (by decide)
    have e98 : ∀ x, τ 98 x = σ 98 x := fun x => f1 98 x (by omega) (by omega)
    have r3 := r2 τ ⟨by rw [e40]; exact t1, fun x => by rw [e98]; exact t3 x⟩
    refine m_feed (d := 18) hg (by rw [e40, ← t1]; exact t2.1) (fun _ => ?_) (fun c' => absurd (by rw [e40, ← t1]; exact c) c')
    have hg2 : GR (fd5 98 69 40 a b p e g τ) := tp4_GRm (tp4_GRm (tp4_GRm (tp4_GRm (tp4_GRm hg))))
    have f2 : ∀ c j, ¬ c = 98 → ¬ (c = 69 ∧ j = 40) → fd5 98 69 40 a b p e g τ c j = τ c j := fun c j h1 h2 => by
      by_cases e : c = 69
      · exact fd5_f h1 (fun z => h2 ⟨e, z⟩)
      · exact fd5_o h1 e
    generalize fd5 98 69 40 a b p e g τ = ρ at *
    have F : ∀ c j, ¬ (c = 51 ∨ (c = 50 ∧ j = 3) ∨ c = 98 ∨ (c = 69 ∧ j = 40)) → ρ c j = σ c j := fun c j h => by rw [f2 c j (by omega) (by omega)]; exact f1 c j (by omega) (by omega)
    refine ⟨by rw [e40, t1], hg2, fun j => by rw [F _ _ (by omega)]; exact hI.s j, (hI.w.fr (fun c j q => F c j (by omega)) (fun c j q => F c j (by omega))), (hI.p.fr (fun c j q => F c j (by omega)) (fun c j q => F c j (by omega))), (hI.a.fr (fun c j q => F c j (by omega)) (fun c j q => F c j (by omega))), (hI.h.fr (fun c j q => F c j (by omega)) (fun c j q => F c j (by omega))), (hI.l.fr (fun c j q => F c j (by omega)) (fun c j q => F c j (by omega))), ⟨?_, ⟨?_, fun x => ?_⟩, fun x => ?_, fun x h0 h1 => ?_⟩, (hI.f.fr (fun c j q => F c j (by omega)) (fun c j q => F c j (by omega))), (hI.q.fr (fun c j q => F c j (by omega)) (fun c j q => F c j (by omega)))⟩
    · rw [f2 50 3 (by decide) (by decide)]; exact r3.1
    · rw [f2 50 3 (by decide) (by decide), z1]; have := t2.1; omega
    · rw [f2 51 x (by omega) (by omega)]; exact b1 x
    · rw [f2 51 x (by omega) (by omega)]; exact r3.2 x
    · rw [F _ _ (by omega)]; exact t4 x h0 h1
  · exact m_feed (d := 18) hI.g (by rw [← t1]; exact t2.1) (fun c' => absurd (by rw [t1]; exact c') c) (fun _ => ⟨rfl, hI⟩)
theorem o_cancel {X : Int → Int} {h a : Int} : OP X 96 138 0 [(0, h), (0, a)] := fun σ n hI => by
  obtain ⟨h1, h2, h3, h4, h5⟩ := hI.h
  have hb : 0 ≤ σ 69 12 ∧ σ 69 12 ≤ 24 := by rw [← h2]; exact ⟨h1.1, h1.2.1⟩
  have hz : Zsub (σ 69 12) 1 = σ 69 12 - 1 := Zs1 (by omega)
  refine s_cancel (d := 18) hI.g h1 (fun c => ⟨_, rfl, fun j => ?_, ?_⟩) (fun c => ⟨_, rfl, hI.s, ?_⟩)
  · rw [wr_ne (by omega), wr_ne (by omega)]; exact hI.s j
  · have hh := h4 h c.1.1 c.1.2
    have hg : GR (wrM (wrM σ (114 + h) 7 1) (114 + h) 8 a) := GR.hi hI.g (fun c' j q => by rw [wr_ne (by omega), wr_ne (by omega)])
    have f1 : ∀ c j, ¬ (c = 114 + h ∧ (j = 7 ∨ j = 8)) → wrM (wrM σ (114 + h) 7 1) (114 + h) 8 a c j = σ c j := fun c j q => by rw [wr_j (by omega), wr_j (by omega)]
    have v7 : wrM (wrM σ (114 + h) 7 1) (114 + h) 8 a (114 + h) 7 = 1 := by rw [wr_nej (by decide), wr_same]
    have v8 : wrM (wrM σ (114 + h) 7 1) (114 + h) 8 a (114 + h) 8 = a := wr_same
    generalize wrM (wrM σ (114 + h) 7 1) (114 + h) 8 a = τ at *
    have e12 : τ 69 12 = σ 69 12 := f1 _ _ (by omega)
    have e86 : ∀ j, τ 86 j = σ 86 j := fun j => f1 _ _ (by omega)
    have h86 := hh.2.2.1
    refine m_cancel (d := 17) hg (by rw [e12]; exact hb) (by rw [e12]; exact hz) (fun _ => ?_) (fun c' => absurd (by rw [e12, e86]; omega) c')
    have f2 : ∀ c j, ¬ (c = 86 ∧ j = h) → wrM τ 86 h a c j = τ c j := fun c j q => wr_j q
    have v86 : wrM τ 86 h a 86 h = a := wr_same
    have hg2 : GR (wrM τ 86 h a) := GR.wrk hg (by decide)
    generalize wrM τ 86 h a = ρ at *
    have F : ∀ c j, ¬ ((c = 114 + h ∧ (j = 7 ∨ j = 8)) ∨ (c = 86 ∧ j = h)) → ρ c j = σ c j := fun c j q => by rw [f2 c j (by omega)]; exact f1 c j (by omega)
    have r7 : ρ (114 + h) 7 = 1 := by rw [f2 _ _ (by omega)]; exact v7
    have r8 : ρ (114 + h) 8 = a := by rw [f2 _ _ (by omega)]; exact v8
    clear f1 f2 v7 v8 e12 e86 hg
    refine ⟨rfl, hg2, fun j => by rw [F _ _ (by omega)]; exact hI.s j, (hI.w.fr (fun c j q => F c j (by omega)) (fun c j q => F c j (by omega))), (hI.p.fr (fun c j q => F c j (by omega)) (fun c j q => F c j (by omega))), (hI.a.fr (fun c j q => F c j (by omega)) (fun c j q => F c j (by omega))), ⟨?_, ?_, ?_, fun k k0 k1 => ?_, fun y => ?_⟩, (hI.l.fr (fun c j q => F c j (by omega)) (fun c j q => F c j (by omega))), (hI.t.fr (fun c j q => F c j (by omega)) (fun c j q => F c j (by omega))), (hI.f.fr (fun c j q => F c j (by omega)) (fun c j q => F c j (by omega))), (hI.q.fr (fun c j q => F c j (by omega)) (fun c j q => F c j (by omega)))⟩
    · refine ⟨by rw [F _ _ (by omega)]; exact h1.1, by rw [F _ _ (by omega)]; exact h1.2.1, fun i i0 i1 => ?_⟩
      rw [F 14 1 (by omega)] at i1
      rw [F _ _ (by omega)]; exact h1.2.2 i i0 i1
    · rw [F _ _ (by omega), F _ _ (by omega)]; exact h2
    · rw [F _ _ (by omega)]; exact h3
    · rw [F 14 1 (by omega)] at k1
      have hk := h4 k k0 k1
      refine ⟨?_, ?_⟩
      · unfold HC
        rw [F _ _ (by omega), F _ _ (by omega), F _ _ (by omega), F _ _ (by omega), F _ _ (by omega), F _ _ (by omega), F _ _ (by omega)]
        exact hk.1
      · by_cases e : k = h
        · subst e
          unfold HE
          rw [r7, r8, v86, F 79 _ (by omega), F 80 _ (by omega), F 81 _ (by omega), F 82 _ (by omega), F 83 _ (by omega), F 84 _ (by omega), F 85 _ (by omega), F 87 _ (by omega), F 88 _ (by omega), F 89 _ (by omega), F _ 0 (by omega), F _ 1 (by omega), F _ 2 (by omega), F _ 3 (by omega), F _ 4 (by omega), F _ 5 (by omega), F _ 6 (by omega), F _ 9 (by omega), F _ 10 (by omega)]
          exact ⟨hk.2.1, Or.inr ⟨rfl, by omega, rfl⟩, hk.2.2.2⟩
        · exact hk.2.fr (fun j => F _ _ (by omega)) (fun c _ _ => F _ _ (by omega))
    · rw [F 14 1 (by omega)]
      have q := h5 y
      have q2 : ((dlN (lvC ρ y) (σ 14 1).toNat).length : Int) ≤ ((dlN (lvC σ y) (σ 14 1).toNat).length : Int) := by
        rw [dlN_len, dlN_len]
        refine sumN_le (fun i hi => ?_)
        show (if lvC ρ y (i : Int) = true then (1 : Int) else 0) ≤ if lvC σ y (i : Int) = true then 1 else 0
        by_cases e : (i : Int) = h
        · rw [if_neg (by unfold lvC; rw [e, r7, decide_eq_true_iff]; omega)]; split <;> omega
        · have e2 : lvC ρ y (i : Int) = lvC σ y (i : Int) := by unfold lvC; rw [F _ _ (by omega), F _ _ (by omega)]
          rw [e2]; exact Int.le_refl _
      omega
  · refine m_cancel (d := 17) hI.g hb hz (fun c' => absurd ?_ c) (fun _ => ⟨rfl, hI⟩)
    have hh := (h4 h c'.1.1 (by omega)).2.2.1
    omega
