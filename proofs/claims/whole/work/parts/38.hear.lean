/-! hearing, refusals -/
set_option maxRecDepth 20000 in
theorem b_18_0 {d : Nat} {x0 : Int} {x1 : Int} {x2 : Int} {x3 : Int} {x4 : Int} {x5 : Int} {σ : Mem} {n : Nat} {Q : Pst} (h0 : 0 ≤ x0) (k : Q none (wrM (wrM (wrM (wrM (wrM (wrM (wrM σ x0 0 x1) x0 1 x2) x0 2 x3) x0 3 x4) x0 4 x5) x0 9 (-1)) x0 10 (-1)) n) : EV d 18 0 [(13, x0), (0, x1), (0, x2), (0, x3), (0, x4), (0, x5)] [] σ n Q := e_load rfl rfl rfl (e_obj rfl (by decide) h0 (Nat.le_of_ble_eq_true rfl) (e_load rfl rfl rfl (e_load rfl rfl rfl (e_putf rfl rfl rfl h0 (e_load rfl rfl rfl (e_load rfl rfl rfl (e_putf rfl rfl rfl h0 (e_load rfl rfl rfl (e_load rfl rfl rfl (e_putf rfl rfl rfl h0 (e_load rfl rfl rfl (e_load rfl rfl rfl (e_putf rfl rfl rfl h0 (e_load rfl rfl rfl (e_load rfl rfl rfl (e_putf rfl rfl rfl h0 (e_load rfl rfl rfl (e_const rfl (e_putf rfl rfl rfl h0 (e_load rfl rfl rfl (e_const rfl (e_putf rfl rfl rfl h0 (ev_ret rfl (by decide) rfl k)))))))))))))))))))))))
set_option maxHeartbeats 2000000 in
theorem wr_j {σ : Mem} {k j v a b : Int} (h : ¬ (a = k ∧ b = j)) : wrM σ k j v a b = σ a b := if_neg h
set_option maxHeartbeats 2000000 in
theorem s_hnew {d : Nat} {σ : Mem} {n : Nat} {Q : Pst} {x0 w l t g r : Int} (h0 : 0 ≤ x0) (k : Q none (wrM (wrM (wrM (wrM (wrM (wrM (wrM σ x0 0 w) x0 1 l) x0 2 t) x0 3 g) x0 4 r) x0 9 (-1)) x0 10 (-1)) n) : EVM d 18 [(13, x0), (0, w), (0, l), (0, t), (0, g), (0, r)] σ n Q := by
  show EV d 18 0 [(13, x0), (0, w), (0, l), (0, t), (0, g), (0, r)] [] σ n Q
  exact b_18_0 (h0 := h0) (k := k)
theorem shF_h {n : Nat} (h : 114 ≤ n) (h2 : n < 138) : shF n = 13 := by
  have : ∀ i : Fin 24, shF (114 + i.val) = 13 := by decide +kernel
  have q := this ⟨n - 114, by omega⟩
  rw [show 114 + (n - 114) = n by omega] at q
  exact q
/-- what a new hearing leaves behind -/
def NH (σ τ : Mem) (s w y b l t g r : Int) : Prop := (∀ c j, ¬ c = 114 + s → ¬ (c = 14 ∧ j = 1) → ¬ (c = 15 ∧ j = s) → τ c j = σ c j) ∧ τ 14 1 = s + 1 ∧ τ 15 s = 114 + s ∧ τ (114 + s) 0 = w ∧ τ (114 + s) 1 = l ∧ τ (114 + s) 2 = t ∧ τ (114 + s) 3 = g ∧ τ (114 + s) 4 = r ∧ τ (114 + s) 5 = y ∧ τ (114 + s) 6 = b ∧ τ (114 + s) 7 = 0 ∧ τ (114 + s) 9 = -1 ∧ τ (114 + s) 10 = -1
set_option maxHeartbeats 2000000 in
theorem s_hearing {d : Nat} {σ : Mem} {n : Nat} {Q : Pst} {w y b l t g r : Int} (hG : GR σ) (hD : DK σ) (hn114 : (n : Int) = 114 + σ 14 1) (hv : (0 ≤ w ∧ w ≤ 19) ∧ ((0 ≤ y ∧ y ≤ 999) ∧ (0 ≤ b ∧ b ≤ 1439) ∧ (10 ≤ l ∧ l ≤ 240) ∧ b + l ≤ 1440) ∧ (0 ≤ t ∧ t ≤ 5) ∧ (1 ≤ g ∧ g ≤ 9) ∧ (1 ≤ r ∧ r ≤ 5) ∧ σ 14 1 < 24 ∧ sumN (fun i => if σ (114 + i) 5 = y ∧ σ (114 + i) 7 = 0 ∧ ¬ 114 + i = -1 then 1 else 0) (σ 14 1).toNat < 4 → ∀ τ, NH σ τ (σ 14 1) w y b l t g r → Q (some (0, σ 14 1)) τ (n + 1)) (hn : ¬ ((0 ≤ w ∧ w ≤ 19) ∧ ((0 ≤ y ∧ y ≤ 999) ∧ (0 ≤ b ∧ b ≤ 1439) ∧ (10 ≤ l ∧ l ≤ 240) ∧ b + l ≤ 1440) ∧ (0 ≤ t ∧ t ≤ 5) ∧ (1 ≤ g ∧ g ≤ 9) ∧ (1 ≤ r ∧ r ≤ 5) ∧ σ 14 1 < 24 ∧ sumN (fun i => if σ (114 + i) 5 = y ∧ σ (114 + i) 7 = 0 ∧ ¬ 114 + i = -1 then 1 else 0) (σ 14 1).toNat < 4) → Q (some (0, -1)) σ n) : EVM (d + 3) 94 [(21, 0), (0, w), (0, y), (0, b), (0, l), (0, t), (0, g), (0, r)] σ n Q := by
  show EV (d + 3) 94 0 [(21, 0), (0, w), (0, y), (0, b), (0, l), (0, t), (0, g), (0, r), (9, 0), (9, 0)] [] σ n Q
  have hD1 := hD.1
  have hD2 := hD.2.1
  refine r_94_0  (k := ?_)
  refine s_isCase (fun c => ?_) (fun c => ?_)
  · dsimp only [Option.toList_some, List.cons_append, List.nil_append]
    refine r_94_4  (ht := fun c => absurd c (by decide)) (hf := fun _ => ?_)
    refine r_94_7  (k := ?_)
    refine s_isSpan (fun c => ?_) (fun c => ?_)
    · dsimp only [Option.toList_some, List.cons_append, List.nil_append]
      refine r_94_14  (ht := fun c => absurd c (by decide)) (hf := fun _ => ?_)
      refine r_94_17  (k := ?_)
      refine s_isTown (fun c => ?_) (fun c => ?_)
      · dsimp only [Option.toList_some, List.cons_append, List.nil_append]
        refine r_94_22  (ht := fun c => absurd c (by decide)) (hf := fun _ => ?_)
        refine r_94_25  (k := ?_)
        refine s_isTongue (fun c => ?_) (fun c => ?_)
        · dsimp only [Option.toList_some, List.cons_append, List.nil_append]
          refine r_94_30  (ht := fun c => absurd c (by decide)) (hf := fun _ => ?_)
          refine r_94_33  (ht := fun c => ?_) (hf := fun c => ?_)
          · skip
            refine r_94_50  (ht := fun _ => ?_) (hf := fun c => absurd c (by decide))
            (first | (exfalso; omega) | exact r_94_81 (k := hn (by omega)))
          · skip
            refine r_94_38  (k := ?_)
            refine s_isGrade (fun c => ?_) (fun c => ?_)
            · dsimp only [Option.toList_some, List.cons_append, List.nil_append]
              refine r_94_43  (ht := fun c => absurd c (by decide)) (hf := fun _ => ?_)
              refine r_94_46  (ht := fun c => absurd c (by decide)) (hf := fun _ => ?_)
              refine r_94_58 (hG := hG) (k := ?_)
              refine s_isFull (fun c => ?_) (fun c => ?_)
              · dsimp only [Option.toList_some, List.cons_append, List.nil_append]
                refine r_94_65 (ht := fun _ => ?_) (hf := fun c => absurd c (by decide))
                exact r_94_81 (k := hn (by omega))
              dsimp only [Option.toList_some, List.cons_append, List.nil_append]
              refine r_94_65 (ht := fun c => absurd rfl c) (hf := fun _ => ?_)
              refine r_94_68 (hG := hG) (k := ?_)
              refine s_liveOn hG hD (fun v ev => ?_)
              dsimp only [Option.toList_some, List.cons_append, List.nil_append]
              refine r_94_77 (ht := fun c2 => ?_) (hf := fun c2 => ?_)
              rotate_left
              · exact r_94_81 (k := hn (by omega))
              have e3 : shF n = 13 := shF_h (by omega) (by omega)
              refine r_94_83 (h0 := e3) (h1 := by omega) (k := ?_)
              refine s_hnew (by omega) ?_
              dsimp only [Option.toList_none, Option.toList_some, List.cons_append, List.nil_append]
              rw [hn114]
              have fr : ∀ c j, ¬ c = 114 + σ 14 1 → (wrM (wrM (wrM (wrM (wrM (wrM (wrM (wrM (wrM (mkM σ (114 + σ 14 1) (dfl 3 ftF)) (114 + σ 14 1) 0 w) (114 + σ 14 1) 1 l) (114 + σ 14 1) 2 t) (114 + σ 14 1) 3 g) (114 + σ 14 1) 4 r) (114 + σ 14 1) 9 (-1)) (114 + σ 14 1) 10 (-1)) (114 + σ 14 1) 5 y) (114 + σ 14 1) 6 b) c j = σ c j := fun c j q => by
                rw [wr_ne q, wr_ne q, wr_ne q, wr_ne q, wr_ne q, wr_ne q, wr_ne q, wr_ne q, wr_ne q]; exact if_neg q
              have e03 : (wrM (wrM (wrM (wrM (wrM (wrM (wrM (wrM (wrM (mkM σ (114 + σ 14 1) (dfl 3 ftF)) (114 + σ 14 1) 0 w) (114 + σ 14 1) 1 l) (114 + σ 14 1) 2 t) (114 + σ 14 1) 3 g) (114 + σ 14 1) 4 r) (114 + σ 14 1) 9 (-1)) (114 + σ 14 1) 10 (-1)) (114 + σ 14 1) 5 y) (114 + σ 14 1) 6 b) 0 3 = 14 := by rw [fr _ _ (by omega)]; exact g_0_3 hG
              have e14 := fr 14 1 (by omega)
              refine r_94_99 (h0 := by omega) (h1 := by rw [e03]; decide) (k := ?_)
              rw [e03]
              have hG2 : GR (wrM (wrM (wrM (wrM (wrM (wrM (wrM (wrM (wrM (mkM σ (114 + σ 14 1) (dfl 3 ftF)) (114 + σ 14 1) 0 w) (114 + σ 14 1) 1 l) (114 + σ 14 1) 2 t) (114 + σ 14 1) 3 g) (114 + σ 14 1) 4 r) (114 + σ 14 1) 9 (-1)) (114 + σ 14 1) 10 (-1)) (114 + σ 14 1) 5 y) (114 + σ 14 1) 6 b) := GR.fr (fun c _ => decide (114 ≤ c)) hG (fun c j q => fr c j (by have := of_decide_eq_false q; omega)) (by decide)
              show EV (d + 2) 10 0 [(11, 14), (13, 114 + σ 14 1)] [] _ _ _
              refine r_10_0 (k := ?_)
              refine s_isFull (fun c => by exfalso; omega) (fun c => ?_)
              dsimp only [Option.toList_none, Option.toList_some, List.cons_append, List.nil_append]
              refine r_10_4 (ht := fun _ => ?_) (hf := fun c => absurd rfl c)
              refine r_10_9 (hG := hG2) (h0 := by omega) (h1 := by omega) (k := ?_)
              dsimp only [Option.toList_none, Option.toList_some, List.cons_append, List.nil_append]
              refine r_94_122 (k := ?_)
              rw [e14, show Zsub (Zadd (σ 14 1) 1) 1 = σ 14 1 by (rw [Zadd_eq (by omega) (by omega), Zsub_eq (by omega) (by omega)]; omega), Zadd_eq (by omega) (by omega)]
              refine hv (by omega) _ ⟨?_, ?_, ?_, ?_, ?_, ?_, ?_, ?_, ?_, ?_, ?_, ?_, ?_⟩
              · intro c j q1 q2 q3
                rw [wr_j q2, wr_j q3, fr c j q1]
              · rw [wr_same]
              · rw [wr_ne (by decide), wr_same]
              · rw [wr_ne (by omega), wr_ne (by omega), wr_nej (by decide), wr_nej (by decide), wr_nej (by decide), wr_nej (by decide), wr_nej (by decide), wr_nej (by decide), wr_nej (by decide), wr_nej (by decide), wr_same]
              · rw [wr_ne (by omega), wr_ne (by omega), wr_nej (by decide), wr_nej (by decide), wr_nej (by decide), wr_nej (by decide), wr_nej (by decide), wr_nej (by decide), wr_nej (by decide), wr_same]
              · rw [wr_ne (by omega), wr_ne (by omega), wr_nej (by decide), wr_nej (by decide), wr_nej (by decide), wr_nej (by decide), wr_nej (by decide), wr_nej (by decide), wr_same]
              · rw [wr_ne (by omega), wr_ne (by omega), wr_nej (by decide), wr_nej (by decide), wr_nej (by decide), wr_nej (by decide), wr_nej (by decide), wr_same]
              · rw [wr_ne (by omega), wr_ne (by omega), wr_nej (by decide), wr_nej (by decide), wr_nej (by decide), wr_nej (by decide), wr_same]
              · rw [wr_ne (by omega), wr_ne (by omega), wr_nej (by decide), wr_same]
              · rw [wr_ne (by omega), wr_ne (by omega), wr_same]
              · rw [wr_ne (by omega), wr_ne (by omega), wr_nej (by decide), wr_nej (by decide), wr_nej (by decide), wr_nej (by decide), wr_nej (by decide), wr_nej (by decide), wr_nej (by decide), wr_nej (by decide), wr_nej (by decide)]
                exact (if_pos rfl).trans rfl
              · rw [wr_ne (by omega), wr_ne (by omega), wr_nej (by decide), wr_nej (by decide), wr_nej (by decide), wr_same]
              · rw [wr_ne (by omega), wr_ne (by omega), wr_nej (by decide), wr_nej (by decide), wr_same]
            · dsimp only [Option.toList_some, List.cons_append, List.nil_append]
              refine r_94_43  (ht := fun _ => ?_) (hf := fun c => absurd c (by decide))
              refine r_94_50  (ht := fun _ => ?_) (hf := fun c => absurd c (by decide))
              (first | (exfalso; omega) | exact r_94_81 (k := hn (by omega)))
        · dsimp only [Option.toList_some, List.cons_append, List.nil_append]
          refine r_94_30  (ht := fun _ => ?_) (hf := fun c => absurd c (by decide))
          refine r_94_50  (ht := fun _ => ?_) (hf := fun c => absurd c (by decide))
          (first | (exfalso; omega) | exact r_94_81 (k := hn (by omega)))
      · dsimp only [Option.toList_some, List.cons_append, List.nil_append]
        refine r_94_22  (ht := fun _ => ?_) (hf := fun c => absurd c (by decide))
        refine r_94_50  (ht := fun _ => ?_) (hf := fun c => absurd c (by decide))
        (first | (exfalso; omega) | exact r_94_81 (k := hn (by omega)))
    · dsimp only [Option.toList_some, List.cons_append, List.nil_append]
      refine r_94_14  (ht := fun _ => ?_) (hf := fun c => absurd c (by decide))
      refine r_94_50  (ht := fun _ => ?_) (hf := fun c => absurd c (by decide))
      (first | (exfalso; omega) | exact r_94_81 (k := hn (by omega)))
  · dsimp only [Option.toList_some, List.cons_append, List.nil_append]
    refine r_94_4  (ht := fun _ => ?_) (hf := fun c => absurd c (by decide))
    refine r_94_50  (ht := fun _ => ?_) (hf := fun c => absurd c (by decide))
    (first | (exfalso; omega) | exact r_94_81 (k := hn (by omega)))
set_option maxHeartbeats 2000000 in
theorem m_hearing {d : Nat} {σ : Mem} {n : Nat} {Q : Pst} {w y b l t g r : Int} (hG : GR σ) (hh : 0 ≤ σ 69 12 ∧ σ 69 12 ≤ 24) (h4 : sumN (fun i => if σ 80 i = y ∧ σ 86 i < 0 ∧ ¬ i = -1 then 1 else 0) (σ 69 12).toNat ≤ 4) (hv : (0 ≤ w ∧ w ≤ 19) ∧ ((0 ≤ y ∧ y ≤ 999) ∧ (0 ≤ b ∧ b ≤ 1439) ∧ (10 ≤ l ∧ l ≤ 240) ∧ b + l ≤ 1440) ∧ (0 ≤ t ∧ t ≤ 5) ∧ (1 ≤ g ∧ g ≤ 9) ∧ (1 ≤ r ∧ r ≤ 5) ∧ σ 69 12 < 24 ∧ sumN (fun i => if σ 80 i = y ∧ σ 86 i < 0 ∧ ¬ i = -1 then 1 else 0) (σ 69 12).toNat < 4 → Q (some (0, σ 69 12)) (wrM (wrM (wrM (wrM (wrM (wrM (wrM (wrM (wrM (wrM (wrM (wrM σ 69 12 (σ 69 12 + 1)) 79 (σ 69 12) w) 80 (σ 69 12) y) 81 (σ 69 12) b) 82 (σ 69 12) l) 83 (σ 69 12) t) 84 (σ 69 12) g) 85 (σ 69 12) r) 86 (σ 69 12) (-1)) 87 (σ 69 12) (-1)) 88 (σ 69 12) (-1)) 89 (σ 69 12) (-1)) n) (hn : ¬ ((0 ≤ w ∧ w ≤ 19) ∧ ((0 ≤ y ∧ y ≤ 999) ∧ (0 ≤ b ∧ b ≤ 1439) ∧ (10 ≤ l ∧ l ≤ 240) ∧ b + l ≤ 1440) ∧ (0 ≤ t ∧ t ≤ 5) ∧ (1 ≤ g ∧ g ≤ 9) ∧ (1 ≤ r ∧ r ≤ 5) ∧ σ 69 12 < 24 ∧ sumN (fun i => if σ 80 i = y ∧ σ 86 i < 0 ∧ ¬ i = -1 then 1 else 0) (σ 69 12).toNat < 4) → Q (some (0, -1)) σ n) : EVM (d + 2) 135 [(22, 69), (0, w), (0, y), (0, b), (0, l), (0, t), (0, g), (0, r)] σ n Q := by
  show EV (d + 2) 135 0 [(22, 69), (0, w), (0, y), (0, b), (0, l), (0, t), (0, g), (0, r), (9, 0)] [] σ n Q
  refine r_135_0  (ht := fun c => ?_) (hf := fun c => ?_)
  · skip
    refine r_135_101  (k := ?_)
    (first | exact hn (by omega) | (have ez : Zadd b l = b + l := Zadd_eq (by omega) (by omega); exact hn (by omega)) | (have ez : Zadd b l = b + l := Zadd_eq (by omega) (by omega); rw [Zadd_eq (a := σ 69 12) (by omega) (by omega)]; exact hv (by omega)))
  · skip
    refine r_135_9  (k := ?_)
    refine m_in (fun c => ?_) (fun c => ?_)
    · dsimp only [Option.toList_some, List.cons_append, List.nil_append]
      refine r_135_16  (ht := fun c => absurd c (by decide)) (hf := fun _ => ?_)
      refine r_135_19  (k := ?_)
      refine m_isDay (fun c => ?_) (fun c => ?_)
      · dsimp only [Option.toList_some, List.cons_append, List.nil_append]
        refine r_135_23  (ht := fun c => absurd c (by decide)) (hf := fun _ => ?_)
        refine r_135_26  (k := ?_)
        refine m_in (fun c => ?_) (fun c => ?_)
        · dsimp only [Option.toList_some, List.cons_append, List.nil_append]
          refine r_135_34  (ht := fun c => absurd c (by decide)) (hf := fun _ => ?_)
          refine r_135_37  (k := ?_)
          refine m_in (fun c => ?_) (fun c => ?_)
          · dsimp only [Option.toList_some, List.cons_append, List.nil_append]
            refine r_135_47  (ht := fun c => absurd c (by decide)) (hf := fun _ => ?_)
            refine r_135_50  (ht := fun c => ?_) (hf := fun c => ?_)
            · skip
              refine r_135_101  (k := ?_)
              (first | exact hn (by omega) | (have ez : Zadd b l = b + l := Zadd_eq (by omega) (by omega); exact hn (by omega)) | (have ez : Zadd b l = b + l := Zadd_eq (by omega) (by omega); rw [Zadd_eq (a := σ 69 12) (by omega) (by omega)]; exact hv (by omega)))
            · skip
              refine r_135_60  (k := ?_)
              refine m_in (fun c => ?_) (fun c => ?_)
              · dsimp only [Option.toList_some, List.cons_append, List.nil_append]
                refine r_135_67  (ht := fun c => absurd c (by decide)) (hf := fun _ => ?_)
                refine r_135_70  (k := ?_)
                refine m_in (fun c => ?_) (fun c => ?_)
                · dsimp only [Option.toList_some, List.cons_append, List.nil_append]
                  refine r_135_78  (ht := fun c => absurd c (by decide)) (hf := fun _ => ?_)
                  refine r_135_81  (k := ?_)
                  refine m_in (fun c => ?_) (fun c => ?_)
                  · dsimp only [Option.toList_some, List.cons_append, List.nil_append]
                    refine r_135_88  (ht := fun c => absurd c (by decide)) (hf := fun _ => ?_)
                    refine r_135_91  (k := ?_)
                    refine m_ofDay hG hh (fun v ev => ?_)
                    dsimp only [Option.toList_some, Option.toList_none, List.cons_append, List.nil_append]
                    refine r_135_97  (ht := fun c => ?_) (hf := fun c => ?_)
                    · skip
                      refine r_135_103 (hG := hG) (h0 := (by first | omega | (simp (disch := omega) only [Zadd_eq, Zsub_eq, Zmul_eq]; omega))) (k := ?_)
                      (first | exact hn (by omega) | (have ez : Zadd b l = b + l := Zadd_eq (by omega) (by omega); exact hn (by omega)) | (have ez : Zadd b l = b + l := Zadd_eq (by omega) (by omega); rw [Zadd_eq (a := σ 69 12) (by omega) (by omega)]; exact hv (by omega)))
                    · skip
                      refine r_135_101  (k := ?_)
                      (first | exact hn (by omega) | (have ez : Zadd b l = b + l := Zadd_eq (by omega) (by omega); exact hn (by omega)) | (have ez : Zadd b l = b + l := Zadd_eq (by omega) (by omega); rw [Zadd_eq (a := σ 69 12) (by omega) (by omega)]; exact hv (by omega)))
                  · dsimp only [Option.toList_some, List.cons_append, List.nil_append]
                    refine r_135_88  (ht := fun _ => ?_) (hf := fun c => absurd c (by decide))
                    refine r_135_101  (k := ?_)
                    (first | exact hn (by omega) | (have ez : Zadd b l = b + l := Zadd_eq (by omega) (by omega); exact hn (by omega)) | (have ez : Zadd b l = b + l := Zadd_eq (by omega) (by omega); rw [Zadd_eq (a := σ 69 12) (by omega) (by omega)]; exact hv (by omega)))
                · dsimp only [Option.toList_some, List.cons_append, List.nil_append]
                  refine r_135_78  (ht := fun _ => ?_) (hf := fun c => absurd c (by decide))
                  refine r_135_101  (k := ?_)
                  (first | exact hn (by omega) | (have ez : Zadd b l = b + l := Zadd_eq (by omega) (by omega); exact hn (by omega)) | (have ez : Zadd b l = b + l := Zadd_eq (by omega) (by omega); rw [Zadd_eq (a := σ 69 12) (by omega) (by omega)]; exact hv (by omega)))
              · dsimp only [Option.toList_some, List.cons_append, List.nil_append]
                refine r_135_67  (ht := fun _ => ?_) (hf := fun c => absurd c (by decide))
                refine r_135_101  (k := ?_)
                (first | exact hn (by omega) | (have ez : Zadd b l = b + l := Zadd_eq (by omega) (by omega); exact hn (by omega)) | (have ez : Zadd b l = b + l := Zadd_eq (by omega) (by omega); rw [Zadd_eq (a := σ 69 12) (by omega) (by omega)]; exact hv (by omega)))
          · dsimp only [Option.toList_some, List.cons_append, List.nil_append]
            refine r_135_47  (ht := fun _ => ?_) (hf := fun c => absurd c (by decide))
            refine r_135_101  (k := ?_)
            (first | exact hn (by omega) | (have ez : Zadd b l = b + l := Zadd_eq (by omega) (by omega); exact hn (by omega)) | (have ez : Zadd b l = b + l := Zadd_eq (by omega) (by omega); rw [Zadd_eq (a := σ 69 12) (by omega) (by omega)]; exact hv (by omega)))
        · dsimp only [Option.toList_some, List.cons_append, List.nil_append]
          refine r_135_34  (ht := fun _ => ?_) (hf := fun c => absurd c (by decide))
          refine r_135_101  (k := ?_)
          (first | exact hn (by omega) | (have ez : Zadd b l = b + l := Zadd_eq (by omega) (by omega); exact hn (by omega)) | (have ez : Zadd b l = b + l := Zadd_eq (by omega) (by omega); rw [Zadd_eq (a := σ 69 12) (by omega) (by omega)]; exact hv (by omega)))
      · dsimp only [Option.toList_some, List.cons_append, List.nil_append]
        refine r_135_23  (ht := fun _ => ?_) (hf := fun c => absurd c (by decide))
        refine r_135_101  (k := ?_)
        (first | exact hn (by omega) | (have ez : Zadd b l = b + l := Zadd_eq (by omega) (by omega); exact hn (by omega)) | (have ez : Zadd b l = b + l := Zadd_eq (by omega) (by omega); rw [Zadd_eq (a := σ 69 12) (by omega) (by omega)]; exact hv (by omega)))
    · dsimp only [Option.toList_some, List.cons_append, List.nil_append]
      refine r_135_16  (ht := fun _ => ?_) (hf := fun c => absurd c (by decide))
      refine r_135_101  (k := ?_)
      (first | exact hn (by omega) | (have ez : Zadd b l = b + l := Zadd_eq (by omega) (by omega); exact hn (by omega)) | (have ez : Zadd b l = b + l := Zadd_eq (by omega) (by omega); rw [Zadd_eq (a := σ 69 12) (by omega) (by omega)]; exact hv (by omega)))
set_option maxHeartbeats 2000000 in
theorem l_refC {d : Nat} {n : Nat} {Q : Pst} {h y : Int} : ∀ (k : Nat) (j : Nat) (a : Int) (l5 : AV) (σ : Mem), (GR σ) → (σ 52 6 ≤ 60) → (σ 52 6 - j < k) → ((j : Int) ≤ σ 52 6) → (0 ≤ a ∧ a ≤ j) → (a = sumN (fun i => if (h = -1 ∨ σ 53 i = h) ∧ (σ 55 i ≤ y ∧ ¬ σ 58 i = -1 ∧ σ 58 i ≤ y) ∧ σ 56 i = 0 then 1 else 0) j) → (∀ v, v = sumN (fun i => if (h = -1 ∨ σ 53 i = h) ∧ (σ 55 i ≤ y ∧ ¬ σ 58 i = -1 ∧ σ 58 i ≤ y) ∧ σ 56 i = 0 then 1 else 0) (σ 52 6).toNat → Q (some (0, v)) σ n) → EV (d + 2) 28 5 [(14, 52), (0, h), (0, y), (0, a), (0, (j : Int)), l5] [] σ n Q := by
  intro k
  induction k with
  | zero => intros; exfalso; omega
  | succ k ih =>
    intro j a l5 σ hG hh hk hj hb ha hq
    refine r_28_5  (ht := fun c => ?_) (hf := fun c => ?_)
    · skip
      refine r_28_78  (k := ?_)
      exact hq _ (by rw [ha, show j = (σ 52 6).toNat by omega])
    · skip
      refine r_28_14  (ht := fun c => ?_) (hf := fun c => ?_)
      · skip
        refine r_28_78  (k := ?_)
        exact hq _ (by rw [ha, show j = (σ 52 6).toNat by omega])
      · skip
        refine r_28_21  (ht := fun c => ?_) (hf := fun c => ?_)
        · skip
          refine r_28_37  (ht := fun c => absurd c (by decide)) (hf := fun _ => ?_)
          refine r_28_49  (k := ?_)
          refine s_isAnsweredBy hG (fun c => ?_) (fun c => ?_)
          · dsimp only [Option.toList_some, List.cons_append, List.nil_append]
            refine r_28_56  (ht := fun c => absurd c (by decide)) (hf := fun _ => ?_)
            refine r_28_59 (hG := hG) (h0 := (by first | omega | (simp (disch := omega) only [Zadd_eq, Zsub_eq, Zmul_eq]; omega))) (ht := fun c => ?_) (hf := fun c => ?_)
            · skip
              refine r_28_72  (k := ?_)
              rw [Zadd_nat (by omega)]
              refine ih (j + 1) _ _ σ hG hh (by omega) (by omega) (by first | omega | (rw [Zadd_eq (by omega) (by omega)]; omega)) (by rw [sumN_s, ← ha]; (try dsimp only); first | (rw [Zadd_eq (by omega) (by omega)]; split <;> omega) | (split <;> omega)) hq
            · skip
              refine r_28_69  (k := ?_)
              rw [Zadd_nat (by omega)]
              refine ih (j + 1) _ _ σ hG hh (by omega) (by omega) (by first | omega | (rw [Zadd_eq (by omega) (by omega)]; omega)) (by rw [sumN_s, ← ha]; (try dsimp only); first | (rw [Zadd_eq (by omega) (by omega)]; split <;> omega) | (split <;> omega)) hq
          · dsimp only [Option.toList_some, List.cons_append, List.nil_append]
            refine r_28_56  (ht := fun _ => ?_) (hf := fun c => absurd c (by decide))
            refine r_28_72  (k := ?_)
            rw [Zadd_nat (by omega)]
            refine ih (j + 1) _ _ σ hG hh (by omega) (by omega) (by first | omega | (rw [Zadd_eq (by omega) (by omega)]; omega)) (by rw [sumN_s, ← ha]; (try dsimp only); first | (rw [Zadd_eq (by omega) (by omega)]; split <;> omega) | (split <;> omega)) hq
        · skip
          refine r_28_26 (hG := hG) (h0 := (by first | omega | (simp (disch := omega) only [Zadd_eq, Zsub_eq, Zmul_eq]; omega))) (ht := fun c => ?_) (hf := fun c => ?_)
          · skip
            refine r_28_41  (ht := fun _ => ?_) (hf := fun c => absurd c (by decide))
            refine r_28_72  (k := ?_)
            rw [Zadd_nat (by omega)]
            refine ih (j + 1) _ _ σ hG hh (by omega) (by omega) (by first | omega | (rw [Zadd_eq (by omega) (by omega)]; omega)) (by rw [sumN_s, ← ha]; (try dsimp only); first | (rw [Zadd_eq (by omega) (by omega)]; split <;> omega) | (split <;> omega)) hq
          · skip
            refine r_28_37  (ht := fun c => absurd c (by decide)) (hf := fun _ => ?_)
            refine r_28_49  (k := ?_)
            refine s_isAnsweredBy hG (fun c => ?_) (fun c => ?_)
            · dsimp only [Option.toList_some, List.cons_append, List.nil_append]
              refine r_28_56  (ht := fun c => absurd c (by decide)) (hf := fun _ => ?_)
              refine r_28_59 (hG := hG) (h0 := (by first | omega | (simp (disch := omega) only [Zadd_eq, Zsub_eq, Zmul_eq]; omega))) (ht := fun c => ?_) (hf := fun c => ?_)
              · skip
                refine r_28_72  (k := ?_)
                rw [Zadd_nat (by omega)]
                refine ih (j + 1) _ _ σ hG hh (by omega) (by omega) (by first | omega | (rw [Zadd_eq (by omega) (by omega)]; omega)) (by rw [sumN_s, ← ha]; (try dsimp only); first | (rw [Zadd_eq (by omega) (by omega)]; split <;> omega) | (split <;> omega)) hq
              · skip
                refine r_28_69  (k := ?_)
                rw [Zadd_nat (by omega)]
                refine ih (j + 1) _ _ σ hG hh (by omega) (by omega) (by first | omega | (rw [Zadd_eq (by omega) (by omega)]; omega)) (by rw [sumN_s, ← ha]; (try dsimp only); first | (rw [Zadd_eq (by omega) (by omega)]; split <;> omega) | (split <;> omega)) hq
            · dsimp only [Option.toList_some, List.cons_append, List.nil_append]
              refine r_28_56  (ht := fun _ => ?_) (hf := fun c => absurd c (by decide))
              refine r_28_72  (k := ?_)
              rw [Zadd_nat (by omega)]
              refine ih (j + 1) _ _ σ hG hh (by omega) (by omega) (by first | omega | (rw [Zadd_eq (by omega) (by omega)]; omega)) (by rw [sumN_s, ← ha]; (try dsimp only); first | (rw [Zadd_eq (by omega) (by omega)]; split <;> omega) | (split <;> omega)) hq
set_option maxHeartbeats 2000000 in
theorem s_refusedBy {d : Nat} {σ : Mem} {n : Nat} {Q : Pst} {h y : Int} (hG : GR σ) (hh : 0 ≤ σ 52 6 ∧ σ 52 6 ≤ 60) (k : ∀ v, v = (sumN (fun i => if (h = -1 ∨ σ 53 i = h) ∧ (σ 55 i ≤ y ∧ ¬ σ 58 i = -1 ∧ σ 58 i ≤ y) ∧ σ 56 i = 0 then 1 else 0) (σ 52 6).toNat : Int) → Q (some (0, v)) σ n) : EVM (d + 2) 28 [(14, 52), (0, h), (0, y)] σ n Q := by
  show EV (d + 2) 28 0 [(14, 52), (0, h), (0, y), (9, 0), (9, 0), (9, 0)] [] σ n Q
  refine r_28_0  (k := ?_)
  exact l_refC ((σ 52 6).toNat + 1) 0 0 _ σ hG hh.2 (by omega) (by omega) (by omega) rfl k
set_option maxHeartbeats 2000000 in
theorem s_refusals {d : Nat} {σ : Mem} {n : Nat} {Q : Pst} {h y : Int} (hG : GR σ) (hD : DK σ) (hh : 0 ≤ σ 52 6 ∧ σ 52 6 ≤ 60) (k : ∀ v, v = (if (h = -1 ∨ (0 ≤ h ∧ h < σ 14 1)) ∧ (0 ≤ y ∧ y ≤ 999) then sumN (fun i => if (h = -1 ∨ σ 53 i = h) ∧ (σ 55 i ≤ y ∧ ¬ σ 58 i = -1 ∧ σ 58 i ≤ y) ∧ σ 56 i = 0 then 1 else 0) (σ 52 6).toNat else -1 : Int) → Q (some (0, v)) σ n) : EVM (d + 3) 112 [(21, 0), (0, h), (0, y)] σ n Q := by
  show EV (d + 3) 112 0 [(21, 0), (0, h), (0, y), (9, 0)] [] σ n Q
  refine r_112_0  (ht := fun c => ?_) (hf := fun c => ?_)
  · skip
    refine r_112_16  (ht := fun c => absurd c (by decide)) (hf := fun _ => ?_)
    refine r_112_26  (k := ?_)
    refine s_isDay (fun c => ?_) (fun c => ?_)
    · dsimp only [Option.toList_some, List.cons_append, List.nil_append]
      refine r_112_30  (ht := fun c => absurd c (by decide)) (hf := fun _ => ?_)
      refine r_112_33 (hG := hG) (k := ?_)
      refine s_refusedBy hG hh (fun v ev => ?_)
      dsimp only [Option.toList_some, Option.toList_none, List.cons_append, List.nil_append]
      refine r_112_42  (k := ?_)
      (first | (exfalso; omega) | exact k _ (by first | (rw [if_pos (by omega)]; assumption) | (rw [if_neg (by omega)])))
    · dsimp only [Option.toList_some, List.cons_append, List.nil_append]
      refine r_112_30  (ht := fun _ => ?_) (hf := fun c => absurd c (by decide))
      refine r_112_45  (k := ?_)
      (first | (exfalso; omega) | exact k _ (by first | (rw [if_pos (by omega)]; assumption) | (rw [if_neg (by omega)])))
  · skip
    refine r_112_5 (hG := hG) (k := ?_)
    refine s_dget hG hD (fun c => ?_) (fun c => ?_)
    · dsimp only [Option.toList_some, List.cons_append, List.nil_append]
      refine r_112_13  (ht := fun c => ?_) (hf := fun c => ?_)
      · skip
        refine r_112_20  (ht := fun _ => ?_) (hf := fun c => absurd c (by decide))
        refine r_112_45  (k := ?_)
        (first | (exfalso; omega) | exact k _ (by first | (rw [if_pos (by omega)]; assumption) | (rw [if_neg (by omega)])))
      · skip
        refine r_112_16  (ht := fun c => absurd c (by decide)) (hf := fun _ => ?_)
        refine r_112_26  (k := ?_)
        refine s_isDay (fun c => ?_) (fun c => ?_)
        · dsimp only [Option.toList_some, List.cons_append, List.nil_append]
          refine r_112_30  (ht := fun c => absurd c (by decide)) (hf := fun _ => ?_)
          refine r_112_33 (hG := hG) (k := ?_)
          refine s_refusedBy hG hh (fun v ev => ?_)
          dsimp only [Option.toList_some, Option.toList_none, List.cons_append, List.nil_append]
          refine r_112_42  (k := ?_)
          (first | (exfalso; omega) | exact k _ (by first | (rw [if_pos (by omega)]; assumption) | (rw [if_neg (by omega)])))
        · dsimp only [Option.toList_some, List.cons_append, List.nil_append]
          refine r_112_30  (ht := fun _ => ?_) (hf := fun c => absurd c (by decide))
          refine r_112_45  (k := ?_)
          (first | (exfalso; omega) | exact k _ (by first | (rw [if_pos (by omega)]; assumption) | (rw [if_neg (by omega)])))
    · dsimp only [Option.toList_some, List.cons_append, List.nil_append]
      refine r_112_13  (ht := fun c => ?_) (hf := fun c => ?_)
      · skip
        refine r_112_20  (ht := fun _ => ?_) (hf := fun c => absurd c (by decide))
        refine r_112_45  (k := ?_)
        (first | (exfalso; omega) | exact k _ (by first | (rw [if_pos (by omega)]; assumption) | (rw [if_neg (by omega)])))
      · skip
        refine r_112_16  (ht := fun c => absurd c (by decide)) (hf := fun _ => ?_)
        refine r_112_26  (k := ?_)
        refine s_isDay (fun c => ?_) (fun c => ?_)
        · dsimp only [Option.toList_some, List.cons_append, List.nil_append]
          refine r_112_30  (ht := fun c => absurd c (by decide)) (hf := fun _ => ?_)
          refine r_112_33 (hG := hG) (k := ?_)
          refine s_refusedBy hG hh (fun v ev => ?_)
          dsimp only [Option.toList_some, Option.toList_none, List.cons_append, List.nil_append]
          refine r_112_42  (k := ?_)
          (first | (exfalso; omega) | exact k _ (by first | (rw [if_pos (by omega)]; assumption) | (rw [if_neg (by omega)])))
        · dsimp only [Option.toList_some, List.cons_append, List.nil_append]
          refine r_112_30  (ht := fun _ => ?_) (hf := fun c => absurd c (by decide))
          refine r_112_45  (k := ?_)
          (first | (exfalso; omega) | exact k _ (by first | (rw [if_pos (by omega)]; assumption) | (rw [if_neg (by omega)])))
set_option maxHeartbeats 2000000 in
theorem l_refM {d : Nat} {n : Nat} {Q : Pst} {h y : Int} : ∀ (k : Nat) (j : Nat) (a : Int) (σ : Mem), (GR σ) → (σ 69 55 ≤ 60) → (σ 69 55 - j < k) → ((j : Int) ≤ σ 69 55) → (0 ≤ a ∧ a ≤ j) → (a = sumN (fun i => if (h = -1 ∨ σ 108 i = h) ∧ (0 ≤ σ 111 i ∧ σ 111 i ≤ y) ∧ σ 112 i = 0 then 1 else 0) j) → (∀ v, v = sumN (fun i => if (h = -1 ∨ σ 108 i = h) ∧ (0 ≤ σ 111 i ∧ σ 111 i ≤ y) ∧ σ 112 i = 0 then 1 else 0) (σ 69 55).toNat → Q (some (0, v)) σ n) → EV d 176 27 [(22, 69), (0, h), (0, y), (0, a), (0, (j : Int))] [] σ n Q := by
  intro k
  induction k with
  | zero => intros; exfalso; omega
  | succ k ih =>
    intro j a σ hG hh hk hj hb ha hq
    refine r_176_27  (ht := fun c => ?_) (hf := fun c => ?_)
    · skip
      refine r_176_97  (k := ?_)
      exact hq _ (by rw [ha, show j = (σ 69 55).toNat by omega])
    · skip
      refine r_176_36  (ht := fun c => ?_) (hf := fun c => ?_)
      · skip
        refine r_176_53 (hG := hG) (h0 := (by first | omega | (simp (disch := omega) only [Zadd_eq, Zsub_eq, Zmul_eq]; omega))) (ht := fun c => ?_) (hf := fun c => ?_)
        · skip
          refine r_176_88  (k := ?_)
          rw [Zadd_nat (by omega)]
          refine ih (j + 1) _ σ hG hh (by omega) (by omega) (by first | omega | (rw [Zadd_eq (by omega) (by omega)]; omega)) (by rw [sumN_s, ← ha]; (try dsimp only); first | (rw [Zadd_eq (by omega) (by omega)]; split <;> omega) | (split <;> omega)) hq
        · skip
          refine r_176_63 (hG := hG) (h0 := (by first | omega | (simp (disch := omega) only [Zadd_eq, Zsub_eq, Zmul_eq]; omega))) (ht := fun c => ?_) (hf := fun c => ?_)
          · skip
            refine r_176_88  (k := ?_)
            rw [Zadd_nat (by omega)]
            refine ih (j + 1) _ σ hG hh (by omega) (by omega) (by first | omega | (rw [Zadd_eq (by omega) (by omega)]; omega)) (by rw [sumN_s, ← ha]; (try dsimp only); first | (rw [Zadd_eq (by omega) (by omega)]; split <;> omega) | (split <;> omega)) hq
          · skip
            refine r_176_74 (hG := hG) (h0 := (by first | omega | (simp (disch := omega) only [Zadd_eq, Zsub_eq, Zmul_eq]; omega))) (ht := fun c => ?_) (hf := fun c => ?_)
            · skip
              refine r_176_88  (k := ?_)
              rw [Zadd_nat (by omega)]
              refine ih (j + 1) _ σ hG hh (by omega) (by omega) (by first | omega | (rw [Zadd_eq (by omega) (by omega)]; omega)) (by rw [sumN_s, ← ha]; (try dsimp only); first | (rw [Zadd_eq (by omega) (by omega)]; split <;> omega) | (split <;> omega)) hq
            · skip
              refine r_176_84  (k := ?_)
              rw [Zadd_nat (by omega)]
              refine ih (j + 1) _ σ hG hh (by omega) (by omega) (by first | omega | (rw [Zadd_eq (by omega) (by omega)]; omega)) (by rw [sumN_s, ← ha]; (try dsimp only); first | (rw [Zadd_eq (by omega) (by omega)]; split <;> omega) | (split <;> omega)) hq
      · skip
        refine r_176_42 (hG := hG) (h0 := (by first | omega | (simp (disch := omega) only [Zadd_eq, Zsub_eq, Zmul_eq]; omega))) (ht := fun c => ?_) (hf := fun c => ?_)
        · skip
          refine r_176_88  (k := ?_)
          rw [Zadd_nat (by omega)]
          refine ih (j + 1) _ σ hG hh (by omega) (by omega) (by first | omega | (rw [Zadd_eq (by omega) (by omega)]; omega)) (by rw [sumN_s, ← ha]; (try dsimp only); first | (rw [Zadd_eq (by omega) (by omega)]; split <;> omega) | (split <;> omega)) hq
        · skip
          refine r_176_53 (hG := hG) (h0 := (by first | omega | (simp (disch := omega) only [Zadd_eq, Zsub_eq, Zmul_eq]; omega))) (ht := fun c => ?_) (hf := fun c => ?_)
          · skip
            refine r_176_88  (k := ?_)
            rw [Zadd_nat (by omega)]
            refine ih (j + 1) _ σ hG hh (by omega) (by omega) (by first | omega | (rw [Zadd_eq (by omega) (by omega)]; omega)) (by rw [sumN_s, ← ha]; (try dsimp only); first | (rw [Zadd_eq (by omega) (by omega)]; split <;> omega) | (split <;> omega)) hq
          · skip
            refine r_176_63 (hG := hG) (h0 := (by first | omega | (simp (disch := omega) only [Zadd_eq, Zsub_eq, Zmul_eq]; omega))) (ht := fun c => ?_) (hf := fun c => ?_)
            · skip
              refine r_176_88  (k := ?_)
              rw [Zadd_nat (by omega)]
              refine ih (j + 1) _ σ hG hh (by omega) (by omega) (by first | omega | (rw [Zadd_eq (by omega) (by omega)]; omega)) (by rw [sumN_s, ← ha]; (try dsimp only); first | (rw [Zadd_eq (by omega) (by omega)]; split <;> omega) | (split <;> omega)) hq
            · skip
              refine r_176_74 (hG := hG) (h0 := (by first | omega | (simp (disch := omega) only [Zadd_eq, Zsub_eq, Zmul_eq]; omega))) (ht := fun c => ?_) (hf := fun c => ?_)
              · skip
                refine r_176_88  (k := ?_)
                rw [Zadd_nat (by omega)]
                refine ih (j + 1) _ σ hG hh (by omega) (by omega) (by first | omega | (rw [Zadd_eq (by omega) (by omega)]; omega)) (by rw [sumN_s, ← ha]; (try dsimp only); first | (rw [Zadd_eq (by omega) (by omega)]; split <;> omega) | (split <;> omega)) hq
              · skip
                refine r_176_84  (k := ?_)
                rw [Zadd_nat (by omega)]
                refine ih (j + 1) _ σ hG hh (by omega) (by omega) (by first | omega | (rw [Zadd_eq (by omega) (by omega)]; omega)) (by rw [sumN_s, ← ha]; (try dsimp only); first | (rw [Zadd_eq (by omega) (by omega)]; split <;> omega) | (split <;> omega)) hq
set_option maxHeartbeats 2000000 in
theorem m_refusals {d : Nat} {σ : Mem} {n : Nat} {Q : Pst} {h y : Int} (hG : GR σ) (hh : 0 ≤ σ 69 55 ∧ σ 69 55 ≤ 60) (hz : Zsub (σ 69 12) 1 = σ 69 12 - 1) (k : ∀ v, v = (if (h = -1 ∨ (0 ≤ h ∧ h < σ 69 12)) ∧ (0 ≤ y ∧ y ≤ 999) then sumN (fun i => if (h = -1 ∨ σ 108 i = h) ∧ (0 ≤ σ 111 i ∧ σ 111 i ≤ y) ∧ σ 112 i = 0 then 1 else 0) (σ 69 55).toNat else -1 : Int) → Q (some (0, v)) σ n) : EVM (d + 2) 176 [(22, 69), (0, h), (0, y)] σ n Q := by
  show EV (d + 2) 176 0 [(22, 69), (0, h), (0, y), (9, 0), (9, 0)] [] σ n Q
  refine r_176_0  (ht := fun c => ?_) (hf := fun c => ?_)
  · skip
    refine r_176_13  (k := ?_)
    refine m_isDay (fun c => ?_) (fun c => ?_)
    · dsimp only [Option.toList_some, List.cons_append, List.nil_append]
      refine r_176_17  (ht := fun _ => ?_) (hf := fun c => absurd c (by decide))
      refine r_176_22  (k := ?_)
      exact l_refM ((σ 69 55).toNat + 1) 0 0 σ hG hh.2 (by omega) (by omega) (by omega) rfl (fun v hv => k v (by rw [if_pos (by omega)]; exact hv))
    · dsimp only [Option.toList_some, List.cons_append, List.nil_append]
      refine r_176_17  (ht := fun c => absurd c (by decide)) (hf := fun _ => ?_)
      refine r_176_20  (k := ?_)
      exact k _ (by rw [if_neg (by omega)])
  · skip
    refine r_176_5  (k := ?_)
    refine m_isHearing (fun c => ?_) (fun c => ?_)
    · dsimp only [Option.toList_some, List.cons_append, List.nil_append]
      refine r_176_10  (ht := fun c => absurd c (by decide)) (hf := fun _ => ?_)
      refine r_176_13  (k := ?_)
      refine m_isDay (fun c => ?_) (fun c => ?_)
      · dsimp only [Option.toList_some, List.cons_append, List.nil_append]
        refine r_176_17  (ht := fun _ => ?_) (hf := fun c => absurd c (by decide))
        refine r_176_22  (k := ?_)
        exact l_refM ((σ 69 55).toNat + 1) 0 0 σ hG hh.2 (by omega) (by omega) (by omega) rfl (fun v hv => k v (by rw [if_pos (by omega)]; exact hv))
      · dsimp only [Option.toList_some, List.cons_append, List.nil_append]
        refine r_176_17  (ht := fun c => absurd c (by decide)) (hf := fun _ => ?_)
        refine r_176_20  (k := ?_)
        exact k _ (by rw [if_neg (by omega)])
    · dsimp only [Option.toList_some, List.cons_append, List.nil_append]
      refine r_176_10  (ht := fun _ => ?_) (hf := fun c => absurd c (by decide))
      refine r_176_20  (k := ?_)
      exact k _ (by rw [if_neg (by omega)])
