/-! teams: the reference -/
set_option maxHeartbeats 2000000 in
theorem m_isOf {d : Nat} {σ : Mem} {n : Nat} {Q : Pst} {p t h : Int} (hG : GR σ) (hP : PM σ) (hh : 0 ≤ h ∧ h < 24) (htt : 0 ≤ t ∧ t ≤ 9) (ht : σ 85 h ≤ gdM σ p (σ 80 h) t → Q (some (0, 1)) σ n) (hf : ¬ (σ 85 h ≤ gdM σ p (σ 80 h) t) → Q (some (0, 0)) σ n) : EVM (d + 1) 139 [(22, 69), (0, p), (0, t), (0, h)] σ n Q := by
  show EV (d + 1) 139 0 [(22, 69), (0, p), (0, t), (0, h)] [] σ n Q
  refine r_139_0 (hG := hG) (h0 := (by first | omega | (simp (disch := omega) only [Zadd_eq, Zsub_eq, Zmul_eq]; omega))) (k := ?_)
  refine m_gradeIn hG hP (by omega) (fun v ev => ?_)
  dsimp only [Option.toList_some, Option.toList_none, List.cons_append, List.nil_append]
  refine r_139_12 (hG := hG) (h0 := (by first | omega | (simp (disch := omega) only [Zadd_eq, Zsub_eq, Zmul_eq]; omega))) (ht := fun c => ?_) (hf := fun c => ?_)
  · skip
    refine r_139_25  (k := ?_)
    (first | exact ht (by omega) | exact hf (by omega))
  · skip
    refine r_139_21  (k := ?_)
    (first | exact ht (by omega) | exact hf (by omega))
def abM (σ : Mem) (h p t : Int) : Bool := decide (σ 78 (20 * p + σ 79 h) = 0) && decide (σ 85 h ≤ gdM σ p (σ 80 h) t)
theorem abM_iff {σ : Mem} {h p t : Int} : abM σ h p t = true ↔ σ 78 (20 * p + σ 79 h) = 0 ∧ σ 85 h ≤ gdM σ p (σ 80 h) t := by
  unfold abM; simp only [Bool.and_eq_true, decide_eq_true_eq]
theorem abM_fr {σ τ : Mem} {h : Int} (hf : ∀ c j, c < 90 → τ c j = σ c j) : abM τ h = abM σ h := by
  have e : ∀ c, c < 90 → τ c = σ c := fun c hc => funext fun j => hf c j hc
  funext p t
  unfold abM gdM
  rw [e 78 (by decide), e 79 (by decide), e 85 (by decide), e 80 (by decide), e 73 (by decide), e 74 (by decide), e 75 (by decide), e 76 (by decide), e 77 (by decide), e 69 (by decide), e 71 (by decide)]
theorem PM.fr {σ τ : Mem} (hP : PM σ) (hf : ∀ c j, c < 90 → τ c j = σ c j) : PM τ := by
  have e : ∀ c, c < 90 → τ c = σ c := fun c hc => funext fun j => hf c j hc
  unfold PM
  rw [e 69 (by decide), e 71 (by decide), e 75 (by decide)]
  exact hP
/-- a hearing of the reference -/
def HM (σ : Mem) (h : Int) : Prop := (0 ≤ h ∧ h < 24) ∧ (0 ≤ σ 79 h ∧ σ 79 h ≤ 19) ∧ (0 ≤ σ 84 h ∧ σ 84 h ≤ 9)
theorem HM.fr {σ τ : Mem} {h : Int} (hM : HM σ h) (hf : ∀ c j, c < 90 → τ c j = σ c j) : HM τ h := by
  unfold HM
  rw [hf 79 h (by decide), hf 84 h (by decide)]
  exact hM
set_option maxHeartbeats 2000000 in
theorem m_isFit {d : Nat} {σ : Mem} {n : Nat} {Q : Pst} {ab : Int → Int → Bool} {tg p h : Int} (hG : GR σ) (hP : PM σ) (hM : HM σ h) (hab : abM σ h = ab) (htg : σ 84 h = tg) (hp : 0 ≤ p ∧ p ≤ 5) (ht : ab p 0 = true ∧ ab p tg = true → Q (some (0, 1)) σ n) (hf : ¬ (ab p 0 = true ∧ ab p tg = true) → Q (some (0, 0)) σ n) : EVM (d + 2) 140 [(22, 69), (0, p), (0, h)] σ n Q := by
  have hM0 := hM.1
  have hM1 := hM.2.1
  have hM2 := hM.2.2
  show EV (d + 2) 140 0 [(22, 69), (0, p), (0, h)] [] σ n Q
  refine r_140_0 (hG := hG) (h0 := (by first | omega | (simp (disch := omega) only [Zadd_eq, Zsub_eq, Zmul_eq]; omega))) (h1 := (by first | omega | (simp (disch := omega) only [Zadd_eq, Zsub_eq, Zmul_eq]; omega))) (ht := fun c => ?_) (hf := fun c => ?_)
  · skip
    refine r_140_48  (k := ?_)
    have hM1 := hM.2.1
    have hM2 := hM.2.2
    simp (disch := omega) only [Zadd_eq, Zmul_eq] at *
    subst hab
    subst htg
    (first | exact ht ⟨abM_iff.mpr ⟨by omega, by omega⟩, abM_iff.mpr ⟨by omega, by omega⟩⟩ | exact hf (fun z => by have q1 := abM_iff.mp z.1; have q2 := abM_iff.mp z.2; omega))
  · skip
    refine r_140_19  (k := ?_)
    refine m_isOf hG hP hM.1 (by omega) (fun c => ?_) (fun c => ?_)
    · dsimp only [Option.toList_some, List.cons_append, List.nil_append]
      refine r_140_26  (ht := fun c => absurd c (by decide)) (hf := fun _ => ?_)
      refine r_140_29 (hG := hG) (h0 := (by first | omega | (simp (disch := omega) only [Zadd_eq, Zsub_eq, Zmul_eq]; omega))) (k := ?_)
      refine m_isOf hG hP hM.1 (by omega) (fun c => ?_) (fun c => ?_)
      · dsimp only [Option.toList_some, List.cons_append, List.nil_append]
        refine r_140_41  (ht := fun c => absurd c (by decide)) (hf := fun _ => ?_)
        refine r_140_44  (k := ?_)
        have hM1 := hM.2.1
        have hM2 := hM.2.2
        simp (disch := omega) only [Zadd_eq, Zmul_eq] at *
        subst hab
        subst htg
        (first | exact ht ⟨abM_iff.mpr ⟨by omega, by omega⟩, abM_iff.mpr ⟨by omega, by omega⟩⟩ | exact hf (fun z => by have q1 := abM_iff.mp z.1; have q2 := abM_iff.mp z.2; omega))
      · dsimp only [Option.toList_some, List.cons_append, List.nil_append]
        refine r_140_41  (ht := fun _ => ?_) (hf := fun c => absurd c (by decide))
        refine r_140_48  (k := ?_)
        have hM1 := hM.2.1
        have hM2 := hM.2.2
        simp (disch := omega) only [Zadd_eq, Zmul_eq] at *
        subst hab
        subst htg
        (first | exact ht ⟨abM_iff.mpr ⟨by omega, by omega⟩, abM_iff.mpr ⟨by omega, by omega⟩⟩ | exact hf (fun z => by have q1 := abM_iff.mp z.1; have q2 := abM_iff.mp z.2; omega))
    · dsimp only [Option.toList_some, List.cons_append, List.nil_append]
      refine r_140_26  (ht := fun _ => ?_) (hf := fun c => absurd c (by decide))
      refine r_140_48  (k := ?_)
      have hM1 := hM.2.1
      have hM2 := hM.2.2
      simp (disch := omega) only [Zadd_eq, Zmul_eq] at *
      subst hab
      subst htg
      (first | exact ht ⟨abM_iff.mpr ⟨by omega, by omega⟩, abM_iff.mpr ⟨by omega, by omega⟩⟩ | exact hf (fun z => by have q1 := abM_iff.mp z.1; have q2 := abM_iff.mp z.2; omega))
set_option maxHeartbeats 2000000 in
theorem l_mrt {d : Nat} {σ : Mem} {n : Nat} {Q : Pst} {ab : Int → Int → Bool} {x y tg h : Int} (hG : GR σ) (hP : PM σ) (hM : HM σ h) (hab : abM σ h = ab) (htg : σ 84 h = tg) (bx : σ 78 (20 * x + σ 79 h) = 0) (by_ : σ 78 (20 * y + σ 79 h) = 0) (hx0 : ab x 0 = true) (hyt : ab y tg = true) : ∀ (k : Nat), k ≤ 9 → (∀ v, v = rlF ab x y tg k → Q (some (0, v)) σ n) → EV (d + 2) 142 73 [(22, 69), (0, x), (0, y), (0, h), (0, 10 - (k : Int))] [] σ n Q := by
  intro k
  have hM0 := hM.1
  induction k with
  | zero =>
    intro _ hq
    refine r_142_73 (ht := fun c => ?_) (hf := fun c => by exfalso; omega)
    exact r_142_122 (k := hq _ rfl)
  | succ k ih =>
    intro hk hq
    have e9 : (10 : Int) - ((k + 1 : Nat) : Int) = 9 - (k : Int) := by omega
    rw [e9]
    have nx : (¬ (¬ 9 - (k : Int) = tg ∧ (ab x 0 = true ∧ ab x (9 - (k : Int)) = true) ∧ (ab y (9 - (k : Int)) = true ∧ ab y tg = true))) → EV (d + 2) 142 73 [(22, 69), (0, x), (0, y), (0, h), (0, Zadd (9 - (k : Int)) 1)] [] σ n Q := fun hc => by
      rw [Zadd_eq (by omega) (by omega), show (9 : Int) - k + 1 = 10 - k by omega]
      exact ih (by omega) (fun v hv => hq v (by rw [rlF_s, if_neg hc]; exact hv))
    have fx : ∀ t, ab x t = true ↔ σ 85 h ≤ gdM σ x (σ 80 h) t := fun t => by rw [← hab, abM_iff]; exact ⟨fun q => q.2, fun q => ⟨bx, q⟩⟩
    have fy : ∀ t, ab y t = true ↔ σ 85 h ≤ gdM σ y (σ 80 h) t := fun t => by rw [← hab, abM_iff]; exact ⟨fun q => q.2, fun q => ⟨by_, q⟩⟩
    refine r_142_73  (ht := fun c => ?_) (hf := fun c => ?_)
    · skip
      exfalso; omega
    · skip
      refine r_142_80 (hG := hG) (h0 := (by first | omega | (simp (disch := omega) only [Zadd_eq, Zsub_eq, Zmul_eq]; omega))) (ht := fun c => ?_) (hf := fun c => ?_)
      · skip
        refine r_142_116  (k := ?_)
        exact nx (fun z => by first | (have z1 := z.1; omega) | (have z1 := (fx _).mp z.2.1.2; omega) | (have z1 := (fy _).mp z.2.2.1; omega))
      · skip
        refine r_142_91  (k := ?_)
        refine m_isOf hG hP hM.1 (by omega) (fun c => ?_) (fun c => ?_)
        · dsimp only [Option.toList_some, List.cons_append, List.nil_append]
          refine r_142_99  (ht := fun c => absurd c (by decide)) (hf := fun _ => ?_)
          refine r_142_102  (k := ?_)
          refine m_isOf hG hP hM.1 (by omega) (fun c => ?_) (fun c => ?_)
          · dsimp only [Option.toList_some, List.cons_append, List.nil_append]
            refine r_142_110  (ht := fun c => absurd c (by decide)) (hf := fun _ => ?_)
            refine r_142_113  (k := ?_)
            exact hq _ (by rw [rlF_s, if_pos ⟨by omega, ⟨hx0, (fx _).mpr (by omega)⟩, (fy _).mpr (by omega), hyt⟩])
          · dsimp only [Option.toList_some, List.cons_append, List.nil_append]
            refine r_142_110  (ht := fun _ => ?_) (hf := fun c => absurd c (by decide))
            refine r_142_116  (k := ?_)
            exact nx (fun z => by first | (have z1 := z.1; omega) | (have z1 := (fx _).mp z.2.1.2; omega) | (have z1 := (fy _).mp z.2.2.1; omega))
        · dsimp only [Option.toList_some, List.cons_append, List.nil_append]
          refine r_142_99  (ht := fun _ => ?_) (hf := fun c => absurd c (by decide))
          refine r_142_116  (k := ?_)
          exact nx (fun z => by first | (have z1 := z.1; omega) | (have z1 := (fx _).mp z.2.1.2; omega) | (have z1 := (fy _).mp z.2.2.1; omega))
set_option maxHeartbeats 2000000 in
theorem m_relay {d : Nat} {σ : Mem} {n : Nat} {Q : Pst} {ab : Int → Int → Bool} {x y tg h : Int} (hG : GR σ) (hP : PM σ) (hM : HM σ h) (hab : abM σ h = ab) (htg : σ 84 h = tg) (hx : 0 ≤ x ∧ x ≤ 5) (hy : 0 ≤ y ∧ y ≤ 5) (k : ∀ v, v = (rlX ab x y tg : Int) → Q (some (0, v)) σ n) : EVM (d + 2) 142 [(22, 69), (0, x), (0, y), (0, h)] σ n Q := by
  show EV (d + 2) 142 0 [(22, 69), (0, x), (0, y), (0, h), (9, 0)] [] σ n Q
  have hM0 := hM.1
  have hM1 := hM.2.1
  have hM2 := hM.2.2
  refine r_142_0  (ht := fun c => ?_) (hf := fun c => ?_)
  · skip
    refine r_142_68  (k := ?_)
    (try simp (disch := omega) only [Zadd_eq, Zmul_eq] at *)
    refine k _ ?_
    unfold rlX
    first
    | (rw [if_pos (by assumption)])
    | (rw [if_neg (by assumption)]
       symm
       first
       | exact rlF_1 (fun z => by rw [← hab] at z; have z1 := (abM_iff.mp z).1; omega) 9
       | exact rlF_1 (fun z => by rw [← hab] at z; have z1 := (abM_iff.mp z).2; omega) 9
       | exact rlF_2 (fun z => by rw [← hab] at z; have z1 := (abM_iff.mp z).1; omega) 9
       | exact rlF_2 (fun z => by rw [← hab, ← htg] at z; have z1 := (abM_iff.mp z).2; omega) 9)
  · skip
    refine r_142_5 (hG := hG) (h0 := (by first | omega | (simp (disch := omega) only [Zadd_eq, Zsub_eq, Zmul_eq]; omega))) (h1 := (by first | omega | (simp (disch := omega) only [Zadd_eq, Zsub_eq, Zmul_eq]; omega))) (ht := fun c => ?_) (hf := fun c => ?_)
    · skip
      refine r_142_68  (k := ?_)
      (try simp (disch := omega) only [Zadd_eq, Zmul_eq] at *)
      refine k _ ?_
      unfold rlX
      first
      | (rw [if_pos (by assumption)])
      | (rw [if_neg (by assumption)]
         symm
         first
         | exact rlF_1 (fun z => by rw [← hab] at z; have z1 := (abM_iff.mp z).1; omega) 9
         | exact rlF_1 (fun z => by rw [← hab] at z; have z1 := (abM_iff.mp z).2; omega) 9
         | exact rlF_2 (fun z => by rw [← hab] at z; have z1 := (abM_iff.mp z).1; omega) 9
         | exact rlF_2 (fun z => by rw [← hab, ← htg] at z; have z1 := (abM_iff.mp z).2; omega) 9)
    · skip
      refine r_142_24 (hG := hG) (h0 := (by first | omega | (simp (disch := omega) only [Zadd_eq, Zsub_eq, Zmul_eq]; omega))) (h1 := (by first | omega | (simp (disch := omega) only [Zadd_eq, Zsub_eq, Zmul_eq]; omega))) (ht := fun c => ?_) (hf := fun c => ?_)
      · skip
        refine r_142_68  (k := ?_)
        (try simp (disch := omega) only [Zadd_eq, Zmul_eq] at *)
        refine k _ ?_
        unfold rlX
        first
        | (rw [if_pos (by assumption)])
        | (rw [if_neg (by assumption)]
           symm
           first
           | exact rlF_1 (fun z => by rw [← hab] at z; have z1 := (abM_iff.mp z).1; omega) 9
           | exact rlF_1 (fun z => by rw [← hab] at z; have z1 := (abM_iff.mp z).2; omega) 9
           | exact rlF_2 (fun z => by rw [← hab] at z; have z1 := (abM_iff.mp z).1; omega) 9
           | exact rlF_2 (fun z => by rw [← hab, ← htg] at z; have z1 := (abM_iff.mp z).2; omega) 9)
      · skip
        refine r_142_43  (k := ?_)
        refine m_isOf hG hP hM.1 (by omega) (fun c => ?_) (fun c => ?_)
        · dsimp only [Option.toList_some, List.cons_append, List.nil_append]
          refine r_142_50  (ht := fun c => absurd c (by decide)) (hf := fun _ => ?_)
          refine r_142_53 (hG := hG) (h0 := (by first | omega | (simp (disch := omega) only [Zadd_eq, Zsub_eq, Zmul_eq]; omega))) (k := ?_)
          refine m_isOf hG hP hM.1 (by omega) (fun c => ?_) (fun c => ?_)
          · dsimp only [Option.toList_some, List.cons_append, List.nil_append]
            refine r_142_65  (ht := fun _ => ?_) (hf := fun c => absurd c (by decide))
            refine r_142_70  (k := ?_)
            (try simp (disch := omega) only [Zadd_eq, Zmul_eq] at *)
            refine l_mrt hG hP hM hab htg (by omega) (by omega) (by rw [← hab]; exact abM_iff.mpr ⟨by omega, by omega⟩) (by rw [← hab, ← htg]; exact abM_iff.mpr ⟨by omega, by omega⟩) 9 (by omega) (fun v hv => k v ?_)
            unfold rlX
            rw [if_neg (by assumption)]
            exact hv
          · dsimp only [Option.toList_some, List.cons_append, List.nil_append]
            refine r_142_65  (ht := fun c => absurd c (by decide)) (hf := fun _ => ?_)
            refine r_142_68  (k := ?_)
            (try simp (disch := omega) only [Zadd_eq, Zmul_eq] at *)
            refine k _ ?_
            unfold rlX
            first
            | (rw [if_pos (by assumption)])
            | (rw [if_neg (by assumption)]
               symm
               first
               | exact rlF_1 (fun z => by rw [← hab] at z; have z1 := (abM_iff.mp z).1; omega) 9
               | exact rlF_1 (fun z => by rw [← hab] at z; have z1 := (abM_iff.mp z).2; omega) 9
               | exact rlF_2 (fun z => by rw [← hab] at z; have z1 := (abM_iff.mp z).1; omega) 9
               | exact rlF_2 (fun z => by rw [← hab, ← htg] at z; have z1 := (abM_iff.mp z).2; omega) 9)
        · dsimp only [Option.toList_some, List.cons_append, List.nil_append]
          refine r_142_50  (ht := fun _ => ?_) (hf := fun c => absurd c (by decide))
          refine r_142_68  (k := ?_)
          (try simp (disch := omega) only [Zadd_eq, Zmul_eq] at *)
          refine k _ ?_
          unfold rlX
          first
          | (rw [if_pos (by assumption)])
          | (rw [if_neg (by assumption)]
             symm
             first
             | exact rlF_1 (fun z => by rw [← hab] at z; have z1 := (abM_iff.mp z).1; omega) 9
             | exact rlF_1 (fun z => by rw [← hab] at z; have z1 := (abM_iff.mp z).2; omega) 9
             | exact rlF_2 (fun z => by rw [← hab] at z; have z1 := (abM_iff.mp z).1; omega) 9
             | exact rlF_2 (fun z => by rw [← hab, ← htg] at z; have z1 := (abM_iff.mp z).2; omega) 9)
/-- the reference's teams in a slot -/
def TmM (s : Int) (σ0 σ : Mem) (l : List Tm) : Prop := (∀ c j, ¬ (c = 93 ∧ j = s) → ¬ ((90 ≤ c ∧ c ≤ 92) ∧ 30 * s ≤ j ∧ j < 30 * s + 30) → σ c j = σ0 c j) ∧ σ 93 s = (l.length : Int) ∧ TLs σ 90 (30 * s) l
theorem TmM.lo {s : Int} {σ0 σ : Mem} {l : List Tm} (h : TmM s σ0 σ l) : ∀ c j, c < 90 → σ c j = σ0 c j := fun c j q => h.1 c j (by omega) (by omega)
theorem TmM.GR {s : Int} {σ0 σ : Mem} {l : List Tm} (hL : TmM s σ0 σ l) (h : GR σ0) : GR σ := GR.fr (fun c _ => decide (90 ≤ c) && decide (c ≤ 93)) h (fun c j q => hL.1 c j (fun z => by simp [z.1] at q) (fun z => by simp [z.1.1, show c ≤ 93 by omega] at q)) (by decide)
theorem TmM.add {s : Int} {σ0 σ : Mem} {l : List Tm} (h : TmM s σ0 σ l) (hl : l.length < 30) (x y z : Int) : TmM s σ0 (wrM (wrM (wrM (wrM σ 90 (30 * s + σ 93 s) x) 91 (30 * s + σ 93 s) y) 92 (30 * s + σ 93 s) z) 93 s (Zadd (σ 93 s) 1)) (l ++ [(x, y, z)]) := by
  obtain ⟨h1, h2, h3⟩ := h
  refine ⟨fun c j q1 q2 => ?_, ?_, ?_⟩
  · rw [wr_if, if_neg q1, wr_if, if_neg (by omega), wr_if, if_neg (by omega), wr_if, if_neg (by omega)]
    exact h1 c j q1 q2
  · rw [wr_same, h2, Zadd_eq (by omega) (by omega), List.length_append]
    simp
  · refine TLs_add (σ := σ) h3 (fun c j q1 q2 q3 => ?_) ?_ ?_ ?_
    · rw [wr_ne (by omega), wr_nej (by omega), wr_nej (by omega), wr_nej (by omega)]
    · rw [wr_ne (by omega), wr_ne (by omega), wr_ne (by omega), wr_if, if_pos (by omega)]
    · rw [wr_ne (by omega), wr_ne (by omega), wr_if, if_pos (by omega)]
    · rw [wr_ne (by omega), wr_if, if_pos (by omega)]
theorem m_comes {d : Nat} {σ0 σ : Mem} {n : Nat} {Q : Pst} {s x y z : Int} {l : List Tm} (hG : GR σ) (hs : 0 ≤ s ∧ s < 5) (hL : TmM s σ0 σ l) (hl : l.length < 30) (k : ∀ τ, TmM s σ0 τ (l ++ [(x, y, z)]) → Q none τ n) : EVM d 141 [(22, 69), (0, s), (0, x), (0, y), (0, z)] σ n Q := by
  show EV d 141 0 [(22, 69), (0, s), (0, x), (0, y), (0, z), (9, 0)] [] σ n Q
  have e := hL.2.1
  have z1 : Zadd (Zmul 30 s) (σ 93 s) = 30 * s + σ 93 s := by simp (disch := omega) only [Zadd_eq, Zmul_eq]
  refine r_141_0 (hG := hG) (h0 := hs) (h1 := by rw [z1]; omega) (k := ?_)
  rw [z1]
  exact k _ (hL.add hl x y z)
set_option maxHeartbeats 2000000 in
theorem l_tmS {d : Nat} {n : Nat} {Q : Pst} {σ0 : Mem} {ab : Int → Int → Bool} {tg h s : Int} {P : Nat} {hG0 : GR σ0} {hP0 : PM σ0} {hM0 : HM σ0 h} {hab0 : abM σ0 h = ab} {htg0 : σ0 84 h = tg} {hs : 0 ≤ s ∧ s < 5} {hPp : σ0 69 2 = (P : Int)} {hP5 : P ≤ 5} : ∀ (k : Nat) (j : Nat) (l5 l6 : AV) (σ : Mem), (TmM s σ0 σ (sgN ab tg j)) → (j ≤ P) → (P - j < k) → (∀ τ l l5 l6, TmM s σ0 τ (sgN ab tg P) → EV (d + 3) 143 113 [(22, 69), (0, h), (0, s), (0, 0), (0, l), l5, l6] [] τ n Q) → EV (d + 3) 143 27 [(22, 69), (0, h), (0, s), (0, 0), (0, (j : Int)), l5, l6] [] σ n Q := by
  intro k
  induction k with
  | zero => intros; exfalso; omega
  | succ k ih =>
    intro j l5 l6 σ hL hj hk hq
    have hG : GR σ := hL.GR hG0
    have hP : PM σ := hP0.fr hL.lo
    have hM : HM σ h := hM0.fr hL.lo
    have hab : abM σ h = ab := by rw [abM_fr hL.lo]; exact hab0
    have htg : σ 84 h = tg := by rw [hL.lo 84 h (by decide)]; exact htg0
    have hPe : σ 69 2 = (P : Int) := by rw [hL.lo 69 2 (by decide)]; exact hPp
    refine r_143_27  (ht := fun c => ?_) (hf := fun c => ?_)
    · skip
      exact hq σ _ _ _ (by rw [show P = j by omega]; exact hL)
    · skip
      refine r_143_36  (k := ?_)
      refine m_isFit hG hP hM hab htg (by omega) (fun c => ?_) (fun c => ?_)
      · dsimp only [Option.toList_some, List.cons_append, List.nil_append]
        refine r_143_43  (ht := fun _ => ?_) (hf := fun c => absurd c (by decide))
        refine r_143_49  (ht := fun c => ?_) (hf := fun c => ?_)
        · skip
          refine r_143_62  (k := ?_)
          refine r_143_68  (ht := fun c => ?_) (hf := fun c => ?_)
          · skip
            refine r_143_107  (k := ?_)
            rw [Zadd_nat (by omega)]
            (first
             | (exfalso; omega)
             | exact ih (j + 1) _ _ τ (by rw [sgN_s, if_pos (by assumption)]; exact hL2) (by omega) (by omega) hq
             | exact ih (j + 1) _ _ σ (by rw [sgN_s, if_neg (by assumption), List.append_nil]; exact hL) (by omega) (by omega) hq)
          · skip
            refine r_143_77  (ht := fun c => ?_) (hf := fun c => ?_)
            · skip
              refine r_143_107  (k := ?_)
              rw [Zadd_nat (by omega)]
              (first
               | (exfalso; omega)
               | exact ih (j + 1) _ _ τ (by rw [sgN_s, if_pos (by assumption)]; exact hL2) (by omega) (by omega) hq
               | exact ih (j + 1) _ _ σ (by rw [sgN_s, if_neg (by assumption), List.append_nil]; exact hL) (by omega) (by omega) hq)
            · skip
              exfalso; omega
        · skip
          refine r_143_53  (k := ?_)
          refine m_comes hG hs hL (by have := sgN_b (ab := ab) (tg := tg) j; omega) (fun τ hL2 => ?_)
          dsimp only [Option.toList_some, Option.toList_none, List.cons_append, List.nil_append]
          refine r_143_62  (k := ?_)
          refine r_143_68  (ht := fun c => ?_) (hf := fun c => ?_)
          · skip
            refine r_143_107  (k := ?_)
            rw [Zadd_nat (by omega)]
            (first
             | (exfalso; omega)
             | exact ih (j + 1) _ _ τ (by rw [sgN_s, if_pos (by assumption)]; exact hL2) (by omega) (by omega) hq
             | exact ih (j + 1) _ _ σ (by rw [sgN_s, if_neg (by assumption), List.append_nil]; exact hL) (by omega) (by omega) hq)
          · skip
            refine r_143_77  (ht := fun c => ?_) (hf := fun c => ?_)
            · skip
              refine r_143_107  (k := ?_)
              rw [Zadd_nat (by omega)]
              (first
               | (exfalso; omega)
               | exact ih (j + 1) _ _ τ (by rw [sgN_s, if_pos (by assumption)]; exact hL2) (by omega) (by omega) hq
               | exact ih (j + 1) _ _ σ (by rw [sgN_s, if_neg (by assumption), List.append_nil]; exact hL) (by omega) (by omega) hq)
            · skip
              exfalso; omega
      · dsimp only [Option.toList_some, List.cons_append, List.nil_append]
        refine r_143_43  (ht := fun c => absurd c (by decide)) (hf := fun _ => ?_)
        refine r_143_46  (k := ?_)
        rw [Zadd_nat (by omega)]
        (first
         | (exfalso; omega)
         | exact ih (j + 1) _ _ τ (by rw [sgN_s, if_pos (by assumption)]; exact hL2) (by omega) (by omega) hq
         | exact ih (j + 1) _ _ σ (by rw [sgN_s, if_neg (by assumption), List.append_nil]; exact hL) (by omega) (by omega) hq)
set_option maxHeartbeats 2000000 in
theorem l_tmI {d : Nat} {n : Nat} {Q : Pst} {σ0 : Mem} {ab : Int → Int → Bool} {tg h s : Int} {P : Nat} {hG0 : GR σ0} {hP0 : PM σ0} {hM0 : HM σ0 h} {hab0 : abM σ0 h = ab} {htg0 : σ0 84 h = tg} {hs : 0 ≤ s ∧ s < 5} {hPp : σ0 69 2 = (P : Int)} {hP5 : P ≤ 5} {x : Nat} {hx : x < P} {hfx : ab x 0 = true ∧ ab x tg = true} : ∀ (k : Nat) (j : Nat) (l6 : AV) (σ : Mem), (TmM s σ0 σ (prN ab tg P x ++ prI ab tg x j)) → (x < j ∧ j ≤ P) → (P - j < k) → (∀ τ l l6, TmM s σ0 τ (prN ab tg P (x + 1)) → EV (d + 3) 143 107 [(22, 69), (0, h), (0, s), (0, 1), (0, (x : Int)), (0, l), l6] [] τ n Q) → EV (d + 3) 143 68 [(22, 69), (0, h), (0, s), (0, 1), (0, (x : Int)), (0, (j : Int)), l6] [] σ n Q := by
  intro k
  induction k with
  | zero => intros; exfalso; omega
  | succ k ih =>
    intro j l6 σ hL hj hk hq
    have hG : GR σ := hL.GR hG0
    have hP : PM σ := hP0.fr hL.lo
    have hM : HM σ h := hM0.fr hL.lo
    have hab : abM σ h = ab := by rw [abM_fr hL.lo]; exact hab0
    have htg : σ 84 h = tg := by rw [hL.lo 84 h (by decide)]; exact htg0
    have hPe : σ 69 2 = (P : Int) := by rw [hL.lo 69 2 (by decide)]; exact hPp
    refine r_143_68  (ht := fun c => ?_) (hf := fun c => ?_)
    · skip
      (first | (exfalso; omega) | exact hq σ _ _ (by rw [prN_s, show prI ab tg x P = prI ab tg x j by rw [show P = j by omega]]; exact hL))
    · skip
      refine r_143_77  (ht := fun c => ?_) (hf := fun c => ?_)
      · skip
        (first | (exfalso; omega) | exact hq σ _ _ (by rw [prN_s, show prI ab tg x P = prI ab tg x j by rw [show P = j by omega]]; exact hL))
      · skip
        refine r_143_81  (k := ?_)
        refine m_isFit hG hP hM hab htg (by omega) (fun c => ?_) (fun c => ?_)
        · dsimp only [Option.toList_some, List.cons_append, List.nil_append]
          refine r_143_88  (ht := fun c => absurd c (by decide)) (hf := fun _ => ?_)
          refine r_143_91  (k := ?_)
          refine m_comes hG hs hL (by have := prN_b (ab := ab) (tg := tg) (P := P) (by omega) x; have q := prI_b (ab := ab) (tg := tg) (x := x) j; rw [List.length_append]; rcases q with q | q <;> (try rw [q.1]) <;> (try simp) <;> omega) (fun τ hL2 => ?_)
          dsimp only [Option.toList_some, Option.toList_none, List.cons_append, List.nil_append]
          refine r_143_101  (k := ?_)
          rw [Zadd_nat (by omega)]
          (first
           | exact ih (j + 1) _ τ (by rw [prI_s, if_pos ⟨by omega, hfx, by assumption⟩, ← List.append_assoc]; exact hL2) (by omega) (by omega) hq
           | exact ih (j + 1) _ σ (by rw [prI_s, if_neg (fun z => absurd z.2.2 (by assumption)), List.append_nil]; exact hL) (by omega) (by omega) hq)
        · dsimp only [Option.toList_some, List.cons_append, List.nil_append]
          refine r_143_88  (ht := fun _ => ?_) (hf := fun c => absurd c (by decide))
          refine r_143_101  (k := ?_)
          rw [Zadd_nat (by omega)]
          (first
           | exact ih (j + 1) _ τ (by rw [prI_s, if_pos ⟨by omega, hfx, by assumption⟩, ← List.append_assoc]; exact hL2) (by omega) (by omega) hq
           | exact ih (j + 1) _ σ (by rw [prI_s, if_neg (fun z => absurd z.2.2 (by assumption)), List.append_nil]; exact hL) (by omega) (by omega) hq)
set_option maxHeartbeats 2000000 in
theorem l_tmL {d : Nat} {n : Nat} {Q : Pst} {σ0 : Mem} {ab : Int → Int → Bool} {tg h s : Int} {P : Nat} {hG0 : GR σ0} {hP0 : PM σ0} {hM0 : HM σ0 h} {hab0 : abM σ0 h = ab} {htg0 : σ0 84 h = tg} {hs : 0 ≤ s ∧ s < 5} {hPp : σ0 69 2 = (P : Int)} {hP5 : P ≤ 5} : ∀ (k : Nat) (j : Nat) (l5 l6 : AV) (σ : Mem), (TmM s σ0 σ (prN ab tg P j)) → (j ≤ P) → (P - j < k) → (∀ τ l l5 l6, TmM s σ0 τ (prN ab tg P P) → EV (d + 3) 143 113 [(22, 69), (0, h), (0, s), (0, 1), (0, l), l5, l6] [] τ n Q) → EV (d + 3) 143 27 [(22, 69), (0, h), (0, s), (0, 1), (0, (j : Int)), l5, l6] [] σ n Q := by
  intro k
  induction k with
  | zero => intros; exfalso; omega
  | succ k ih =>
    intro j l5 l6 σ hL hj hk hq
    have hG : GR σ := hL.GR hG0
    have hP : PM σ := hP0.fr hL.lo
    have hM : HM σ h := hM0.fr hL.lo
    have hab : abM σ h = ab := by rw [abM_fr hL.lo]; exact hab0
    have htg : σ 84 h = tg := by rw [hL.lo 84 h (by decide)]; exact htg0
    have hPe : σ 69 2 = (P : Int) := by rw [hL.lo 69 2 (by decide)]; exact hPp
    refine r_143_27  (ht := fun c => ?_) (hf := fun c => ?_)
    · skip
      exact hq σ _ _ _ (by rw [show prN ab tg P P = prN ab tg P j by rw [show P = j by omega]]; exact hL)
    · skip
      refine r_143_36  (k := ?_)
      refine m_isFit hG hP hM hab htg (by omega) (fun c => ?_) (fun c => ?_)
      · dsimp only [Option.toList_some, List.cons_append, List.nil_append]
        refine r_143_43  (ht := fun _ => ?_) (hf := fun c => absurd c (by decide))
        refine r_143_49  (ht := fun c => ?_) (hf := fun c => ?_)
        · skip
          refine r_143_62  (k := ?_)
          rw [Zadd_nat (by omega)]
          refine l_tmI (hG0 := hG0) (hP0 := hP0) (hM0 := hM0) (hab0 := hab0) (htg0 := htg0) (hs := hs) (hPp := hPp) (hP5 := hP5) (x := j) (hx := by omega) (hfx := by assumption) 6 (j + 1) _ σ (by rw [prI_0, List.append_nil]; exact hL) (by omega) (by omega) (fun τ l l6 hL2 => ?_)
          refine r_143_107 (k := ?_)
          rw [Zadd_nat (by omega)]
          exact ih (j + 1) _ _ τ hL2 (by omega) (by omega) hq
        · skip
          exfalso; omega
      · dsimp only [Option.toList_some, List.cons_append, List.nil_append]
        refine r_143_43  (ht := fun c => absurd c (by decide)) (hf := fun _ => ?_)
        refine r_143_46  (k := ?_)
        rw [Zadd_nat (by omega)]
        exact ih (j + 1) _ _ σ (by rw [prN_s, prI_n (by assumption), List.append_nil]; exact hL) (by omega) (by omega) hq
set_option maxHeartbeats 2000000 in
theorem l_tmJ {d : Nat} {n : Nat} {Q : Pst} {σ0 : Mem} {ab : Int → Int → Bool} {tg h s : Int} {P : Nat} {hG0 : GR σ0} {hP0 : PM σ0} {hM0 : HM σ0 h} {hab0 : abM σ0 h = ab} {htg0 : σ0 84 h = tg} {hs : 0 ≤ s ∧ s < 5} {hPp : σ0 69 2 = (P : Int)} {hP5 : P ≤ 5} {x3 : Int} {x : Nat} {hx : x < P} : ∀ (k : Nat) (j : Nat) (l6 : AV) (σ : Mem), (TmM s σ0 σ (rlN ab tg P x ++ rlI ab tg x j)) → (j ≤ P) → (P - j < k) → (∀ τ l l6, TmM s σ0 τ (rlN ab tg P (x + 1)) → EV (d + 3) 143 184 [(22, 69), (0, h), (0, s), (0, x3), (0, (x : Int)), (0, l), l6] [] τ n Q) → EV (d + 3) 143 142 [(22, 69), (0, h), (0, s), (0, x3), (0, (x : Int)), (0, (j : Int)), l6] [] σ n Q := by
  intro k
  induction k with
  | zero => intros; exfalso; omega
  | succ k ih =>
    intro j l6 σ hL hj hk hq
    have hG : GR σ := hL.GR hG0
    have hP : PM σ := hP0.fr hL.lo
    have hM : HM σ h := hM0.fr hL.lo
    have hab : abM σ h = ab := by rw [abM_fr hL.lo]; exact hab0
    have htg : σ 84 h = tg := by rw [hL.lo 84 h (by decide)]; exact htg0
    have hPe : σ 69 2 = (P : Int) := by rw [hL.lo 69 2 (by decide)]; exact hPp
    refine r_143_142  (ht := fun c => ?_) (hf := fun c => ?_)
    · skip
      exact hq σ _ _ (by rw [rlN_s, show rlI ab tg x P = rlI ab tg x j by rw [show P = j by omega]]; exact hL)
    · skip
      refine r_143_151  (k := ?_)
      refine m_relay hG hP hM hab htg (by omega) (by omega) (fun v ev => ?_)
      dsimp only [Option.toList_some, Option.toList_none, List.cons_append, List.nil_append]
      refine r_143_160  (ht := fun c => ?_) (hf := fun c => ?_)
      · skip
        refine r_143_178  (k := ?_)
        rw [Zadd_nat (by omega)]
        have qb := rlX_b (ab := ab) (x := x) (y := j) (tg := tg)
        (first
         | exact ih (j + 1) _ τ (by rw [rlI_s, if_neg (by omega), ← ev, ← List.append_assoc]; exact hL2) (by omega) (by omega) hq
         | exact ih (j + 1) _ σ (by rw [rlI_s, if_pos (by omega), List.append_nil]; exact hL) (by omega) (by omega) hq)
      · skip
        refine r_143_167  (k := ?_)
        refine m_comes hG hs hL (by have := rlN_b (ab := ab) (tg := tg) (P := P) hP5 x (by omega); have q := rlI_b (ab := ab) (tg := tg) (x := x) j; rw [List.length_append]; omega) (fun τ hL2 => ?_)
        dsimp only [Option.toList_some, Option.toList_none, List.cons_append, List.nil_append]
        refine r_143_178  (k := ?_)
        rw [Zadd_nat (by omega)]
        have qb := rlX_b (ab := ab) (x := x) (y := j) (tg := tg)
        (first
         | exact ih (j + 1) _ τ (by rw [rlI_s, if_neg (by omega), ← ev, ← List.append_assoc]; exact hL2) (by omega) (by omega) hq
         | exact ih (j + 1) _ σ (by rw [rlI_s, if_pos (by omega), List.append_nil]; exact hL) (by omega) (by omega) hq)
set_option maxHeartbeats 2000000 in
theorem l_tmR {d : Nat} {n : Nat} {Q : Pst} {σ0 : Mem} {ab : Int → Int → Bool} {tg h s : Int} {P : Nat} {hG0 : GR σ0} {hP0 : PM σ0} {hM0 : HM σ0 h} {hab0 : abM σ0 h = ab} {htg0 : σ0 84 h = tg} {hs : 0 ≤ s ∧ s < 5} {hPp : σ0 69 2 = (P : Int)} {hP5 : P ≤ 5} {x3 : Int} : ∀ (k : Nat) (j : Nat) (l5 l6 : AV) (σ : Mem), (TmM s σ0 σ (rlN ab tg P j)) → (j ≤ P) → (P - j < k) → (∀ τ, TmM s σ0 τ (rlN ab tg P P) → Q none τ n) → EV (d + 3) 143 130 [(22, 69), (0, h), (0, s), (0, x3), (0, (j : Int)), l5, l6] [] σ n Q := by
  intro k
  induction k with
  | zero => intros; exfalso; omega
  | succ k ih =>
    intro j l5 l6 σ hL hj hk hq
    have hG : GR σ := hL.GR hG0
    have hP : PM σ := hP0.fr hL.lo
    have hM : HM σ h := hM0.fr hL.lo
    have hab : abM σ h = ab := by rw [abM_fr hL.lo]; exact hab0
    have htg : σ 84 h = tg := by rw [hL.lo 84 h (by decide)]; exact htg0
    have hPe : σ 69 2 = (P : Int) := by rw [hL.lo 69 2 (by decide)]; exact hPp
    refine r_143_130  (ht := fun c => ?_) (hf := fun c => ?_)
    · skip
      refine r_143_190  (k := ?_)
      exact hq σ (by rw [show rlN ab tg P P = rlN ab tg P j by rw [show P = j by omega]]; exact hL)
    · skip
      refine r_143_139  (k := ?_)
      refine l_tmJ (hG0 := hG0) (hP0 := hP0) (hM0 := hM0) (hab0 := hab0) (htg0 := htg0) (hs := hs) (hPp := hPp) (hP5 := hP5) (x := j) (hx := by omega) 6 0 _ σ (by rw [show rlI ab tg j 0 = [] from rfl, List.append_nil]; exact hL) (by omega) (by omega) (fun τ l l6 hL2 => ?_)
      refine r_143_184 (k := ?_)
      rw [Zadd_nat (by omega)]
      exact ih (j + 1) _ _ τ hL2 (by omega) (by omega) hq
set_option maxHeartbeats 2000000 in
theorem m_teamsOf {d : Nat} {σ : Mem} {n : Nat} {Q : Pst} {h s : Int} {P : Nat} (hG : GR σ) (hP : PM σ) (hM : HM σ h) (hs : 0 ≤ s ∧ s < 5) (hPp : σ 69 2 = (P : Int)) (hP5 : P ≤ 5) (k : ∀ τ, TmM s σ τ (tmL (abM σ h) P (90 < σ 82 h) (σ 84 h)) → Q none τ n) : EVM (d + 3) 143 [(22, 69), (0, h), (0, s)] σ n Q := by
  show EV (d + 3) 143 0 [(22, 69), (0, h), (0, s), (9, 0), (9, 0), (9, 0), (9, 0)] [] σ n Q
  have L0 : TmM s σ (wrM σ 93 s 0) [] := ⟨fun c j q1 q2 => by rw [wr_if, if_neg q1], by rw [wr_same]; rfl, fun i e he => by simp at he⟩
  have hG0 := hG
  have hP0 := hP
  have hM0 := hM
  refine r_143_0 (hG := hG) (h0 := hs) (h1 := hM.1) (ht := fun c => ?_) (hf := fun c => ?_)
  · refine r_143_22 (k := ?_)
    refine l_tmS (hG0 := hG) (hP0 := hP) (hM0 := hM) (hab0 := rfl) (htg0 := rfl) (hs := hs) (hPp := hPp) (hP5 := hP5) 6 0 _ _ _ L0 (by omega) (by omega) (fun τ l l5 l6 hL => ?_)
    refine r_143_113 (ht := fun c => absurd rfl c) (hf := fun _ => ?_)
    have es := hL.2.1
    refine r_143_117 (hG := hL.GR hG) (h0 := hs) (ht := fun c2 => ?_) (hf := fun c2 => ?_)
    · have hl0 : sgN (abM σ h) (σ 84 h) P = [] := List.eq_nil_of_length_eq_zero (by omega)
      rw [hl0] at hL
      refine r_143_127 (k := ?_)
      refine l_tmR (hG0 := hG) (hP0 := hP) (hM0 := hM) (hab0 := rfl) (htg0 := rfl) (hs := hs) (hPp := hPp) (hP5 := hP5) 6 0 _ _ _ hL (by omega) (by omega) (fun τ2 hL2 => k τ2 ?_)
      unfold tmL
      rw [if_neg (by omega), if_pos (by rw [hl0]; rfl)]
      exact hL2
    · refine r_143_126 (k := k τ ?_)
      unfold tmL
      rw [if_neg (by omega), if_neg (by omega)]
      exact hL
  · refine r_143_18 (k := ?_)
    refine l_tmL (hG0 := hG) (hP0 := hP) (hM0 := hM) (hab0 := rfl) (htg0 := rfl) (hs := hs) (hPp := hPp) (hP5 := hP5) 6 0 _ _ _ L0 (by omega) (by omega) (fun τ l l5 l6 hL => ?_)
    refine r_143_113 (ht := fun _ => ?_) (hf := fun c => by exfalso; omega)
    refine r_143_126 (k := k τ ?_)
    unfold tmL
    rw [if_pos (by omega)]
    exact hL
