/-! the tape is fed; what a text of fees tells -/
def tp (T c f v sh : Int) (σ : Mem) : Mem := wrM (wrM σ T (σ c f) (Zbnar (Zi2b (Zshr v sh)))) c f (Zadd (σ c f) 1)
def tp4 (T c f v : Int) (σ : Mem) : Mem := tp T c f v 0 (tp T c f v 8 (tp T c f v 16 (tp T c f v 24 σ)))
theorem tp_sz {T c f v sh : Int} {σ : Mem} (h : 0 ≤ σ c f) (h2 : σ c f < 600) : tp T c f v sh σ c f = σ c f + 1 := by
  unfold tp; rw [wr_same, Zadd_eq (by omega) (by omega)]
theorem tp_o {T c f v sh k j : Int} {σ : Mem} (h : ¬ k = T) (h2 : ¬ k = c) : tp T c f v sh σ k j = σ k j := by
  unfold tp; rw [wr_if, if_neg (fun q => h2 q.1), wr_if, if_neg (fun q => h q.1)]
theorem tp_GR {v sh : Int} {σ : Mem} (hG : GR σ) : GR (tp 51 50 3 v sh σ) := by
  unfold tp; exact GR.wr (GR.wrk hG (by decide)) (by decide)
theorem tp_GRm {v sh : Int} {σ : Mem} (hG : GR σ) : GR (tp 98 69 40 v sh σ) := by
  unfold tp; exact GR.wr (GR.wrk hG (by decide)) (by decide)
theorem tp4_sz {T c f v : Int} {σ : Mem} (h : 0 ≤ σ c f) (h2 : σ c f + 4 ≤ 600) : tp4 T c f v σ c f = σ c f + 4 := by
  have e1 := @tp_sz T c f v 24 σ h (by omega)
  have e2 := @tp_sz T c f v 16 _ (by omega) (by omega : tp T c f v 24 σ c f < 600)
  have e3 := @tp_sz T c f v 8 _ (by omega) (by omega : tp T c f v 16 (tp T c f v 24 σ) c f < 600)
  have e4 := @tp_sz T c f v 0 _ (by omega) (by omega : tp T c f v 8 (tp T c f v 16 (tp T c f v 24 σ)) c f < 600)
  unfold tp4; omega
theorem tp4_GR {v : Int} {σ : Mem} (hG : GR σ) : GR (tp4 51 50 3 v σ) := tp_GR (tp_GR (tp_GR (tp_GR hG)))
theorem tp4_GRm {v : Int} {σ : Mem} (hG : GR σ) : GR (tp4 98 69 40 v σ) := tp_GRm (tp_GRm (tp_GRm (tp_GRm hG)))
def fd5 (T c f a b p e g : Int) (σ : Mem) : Mem := tp4 T c f g (tp4 T c f e (tp4 T c f p (tp4 T c f b (tp4 T c f a σ))))
/-- the class's tape in σ is the reference's in τ -/
def TR (σ τ : Mem) : Prop := σ 50 3 = τ 69 40 ∧ ∀ x, σ 51 x = τ 98 x
theorem TR_tp {σ τ : Mem} {v sh : Int} (h : TR σ τ) : TR (tp 51 50 3 v sh σ) (tp 98 69 40 v sh τ) := by
  refine ⟨?_, fun x => ?_⟩
  · show wrM _ _ _ _ _ _ = wrM _ _ _ _ _ _
    rw [wr_same, wr_same, h.1]
  · unfold tp wrM
    simp [h.1, h.2 x]
theorem TR_tp4 {σ τ : Mem} {v : Int} (h : TR σ τ) : TR (tp4 51 50 3 v σ) (tp4 98 69 40 v τ) := TR_tp (TR_tp (TR_tp (TR_tp h)))
theorem TR_fd5 {σ τ : Mem} {a b p e g : Int} (h : TR σ τ) : TR (fd5 51 50 3 a b p e g σ) (fd5 98 69 40 a b p e g τ) := TR_tp4 (TR_tp4 (TR_tp4 (TR_tp4 (TR_tp4 h))))
theorem tp4_o {T c f v k j : Int} {σ : Mem} (h : ¬ k = T) (h2 : ¬ k = c) : tp4 T c f v σ k j = σ k j := by
  unfold tp4; rw [tp_o h h2, tp_o h h2, tp_o h h2, tp_o h h2]
theorem fd5_o {T c f a b p e g k j : Int} {σ : Mem} (h : ¬ k = T) (h2 : ¬ k = c) : fd5 T c f a b p e g σ k j = σ k j := by
  unfold fd5; rw [tp4_o h h2, tp4_o h h2, tp4_o h h2, tp4_o h h2, tp4_o h h2]
theorem tp_f {T c f v sh k j : Int} {σ : Mem} (h : ¬ k = T) (h2 : ¬ j = f) : tp T c f v sh σ k j = σ k j := by
  unfold tp; rw [wr_if, if_neg (fun q => h2 q.2), wr_if, if_neg (fun q => h q.1)]
theorem fd5_f {T c f a b p e g k j : Int} {σ : Mem} (h : ¬ k = T) (h2 : ¬ j = f) : fd5 T c f a b p e g σ k j = σ k j := by
  unfold fd5 tp4; simp only [tp_f h h2]
set_option maxHeartbeats 2000000 in
theorem s_append {d : Nat} {σ : Mem} {n : Nat} {Q : Pst} {v : Int} (hG : GR σ) (h : 0 ≤ σ 50 3) (h2 : σ 50 3 + 4 ≤ 600) (k : Q none (tp4 51 50 3 v σ) n) : EVM d 51 [(18, 50), (0, v)] σ n Q := by
  show EV d 51 0 [(18, 50), (0, v), (9, 0)] [] σ n Q
  refine r_51_0 (k := ?_)
  refine r_51_3 (ht := fun c => absurd c (by decide)) (hf := fun _ => ?_)
  refine r_51_7 (ht := fun c => absurd c (by omega)) (hf := fun _ => ?_)
  refine r_51_17 (hG := hG) (h0 := by omega) (k := ?_)
  have e0 := @tp_sz 51 50 3 v 24 σ (by omega) (by omega)
  rw [show Zadd 24 (-8) = 16 from by decide]
  show EV d 51 3 [(18, 50), (0, v), (0, 16)] [] (tp 51 50 3 v 24 σ) n Q
  refine r_51_3 (ht := fun c => absurd c (by decide)) (hf := fun _ => ?_)
  refine r_51_7 (ht := fun c => absurd c (by omega)) (hf := fun _ => ?_)
  refine r_51_17 (hG := (tp_GR hG)) (h0 := by omega) (k := ?_)
  have e1 := @tp_sz 51 50 3 v 16 (tp 51 50 3 v 24 σ) (by omega) (by omega)
  rw [show Zadd 16 (-8) = 8 from by decide]
  show EV d 51 3 [(18, 50), (0, v), (0, 8)] [] (tp 51 50 3 v 16 (tp 51 50 3 v 24 σ)) n Q
  refine r_51_3 (ht := fun c => absurd c (by decide)) (hf := fun _ => ?_)
  refine r_51_7 (ht := fun c => absurd c (by omega)) (hf := fun _ => ?_)
  refine r_51_17 (hG := (tp_GR (tp_GR hG))) (h0 := by omega) (k := ?_)
  have e2 := @tp_sz 51 50 3 v 8 (tp 51 50 3 v 16 (tp 51 50 3 v 24 σ)) (by omega) (by omega)
  rw [show Zadd 8 (-8) = 0 from by decide]
  show EV d 51 3 [(18, 50), (0, v), (0, 0)] [] (tp 51 50 3 v 8 (tp 51 50 3 v 16 (tp 51 50 3 v 24 σ))) n Q
  refine r_51_3 (ht := fun c => absurd c (by decide)) (hf := fun _ => ?_)
  refine r_51_7 (ht := fun c => absurd c (by omega)) (hf := fun _ => ?_)
  refine r_51_17 (hG := (tp_GR (tp_GR (tp_GR hG)))) (h0 := by omega) (k := ?_)
  have e3 := @tp_sz 51 50 3 v 0 (tp 51 50 3 v 8 (tp 51 50 3 v 16 (tp 51 50 3 v 24 σ))) (by omega) (by omega)
  rw [show Zadd 0 (-8) = (-8) from by decide]
  show EV d 51 3 [(18, 50), (0, v), (0, -8)] [] (tp 51 50 3 v 0 (tp 51 50 3 v 8 (tp 51 50 3 v 16 (tp 51 50 3 v 24 σ)))) n Q
  refine r_51_3 (ht := fun _ => ?_) (hf := fun c => absurd c (by decide))
  exact r_51_46 (k := k)
set_option maxHeartbeats 2000000 in
theorem m_four {d : Nat} {σ : Mem} {n : Nat} {Q : Pst} {v : Int} (hG : GR σ) (h : 0 ≤ σ 69 40) (h2 : σ 69 40 + 4 ≤ 600) (k : Q none (tp4 98 69 40 v σ) n) : EVM d 160 [(22, 69), (0, v)] σ n Q := by
  show EV d 160 0 [(22, 69), (0, v), (9, 0)] [] σ n Q
  refine r_160_0 (k := ?_)
  refine r_160_3 (ht := fun c => absurd c (by decide)) (hf := fun _ => ?_)
  refine r_160_7 (hG := hG) (h0 := by omega) (k := ?_)
  have e0 := @tp_sz 98 69 40 v 24 σ (by omega) (by omega)
  rw [show Zadd 24 (-8) = 16 from by decide]
  show EV d 160 3 [(22, 69), (0, v), (0, 16)] [] (tp 98 69 40 v 24 σ) n Q
  refine r_160_3 (ht := fun c => absurd c (by decide)) (hf := fun _ => ?_)
  refine r_160_7 (hG := (tp_GRm hG)) (h0 := by omega) (k := ?_)
  have e1 := @tp_sz 98 69 40 v 16 (tp 98 69 40 v 24 σ) (by omega) (by omega)
  rw [show Zadd 16 (-8) = 8 from by decide]
  show EV d 160 3 [(22, 69), (0, v), (0, 8)] [] (tp 98 69 40 v 16 (tp 98 69 40 v 24 σ)) n Q
  refine r_160_3 (ht := fun c => absurd c (by decide)) (hf := fun _ => ?_)
  refine r_160_7 (hG := (tp_GRm (tp_GRm hG))) (h0 := by omega) (k := ?_)
  have e2 := @tp_sz 98 69 40 v 8 (tp 98 69 40 v 16 (tp 98 69 40 v 24 σ)) (by omega) (by omega)
  rw [show Zadd 8 (-8) = 0 from by decide]
  show EV d 160 3 [(22, 69), (0, v), (0, 0)] [] (tp 98 69 40 v 8 (tp 98 69 40 v 16 (tp 98 69 40 v 24 σ))) n Q
  refine r_160_3 (ht := fun c => absurd c (by decide)) (hf := fun _ => ?_)
  refine r_160_7 (hG := (tp_GRm (tp_GRm (tp_GRm hG)))) (h0 := by omega) (k := ?_)
  have e3 := @tp_sz 98 69 40 v 0 (tp 98 69 40 v 8 (tp 98 69 40 v 16 (tp 98 69 40 v 24 σ))) (by omega) (by omega)
  rw [show Zadd 0 (-8) = (-8) from by decide]
  show EV d 160 3 [(22, 69), (0, v), (0, -8)] [] (tp 98 69 40 v 0 (tp 98 69 40 v 8 (tp 98 69 40 v 16 (tp 98 69 40 v 24 σ)))) n Q
  refine r_160_3 (ht := fun _ => ?_) (hf := fun c => absurd c (by decide))
  exact r_160_36 (k := k)
set_option maxHeartbeats 2000000 in
theorem s_hasRoom {d : Nat} {σ : Mem} {n : Nat} {Q : Pst} {x : Int} (h0 : 0 ≤ σ 50 3 ∧ σ 50 3 ≤ 600) (hx : 0 ≤ x ∧ x ≤ 100) (ht : σ 50 3 + x ≤ 600 → Q (some (0, 1)) σ n) (hf : ¬ (σ 50 3 + x ≤ 600) → Q (some (0, 0)) σ n) : EVM d 50 [(18, 50), (0, x)] σ n Q := by
  show EV d 50 0 [(18, 50), (0, x)] [] σ n Q
  refine r_50_0  (ht := fun c => ?_) (hf := fun c => ?_)
  · skip
    refine r_50_16  (k := ?_)
    (first | exact ht (by rw [Zadd_eq (by omega) (by omega)] at *; omega) | exact hf (by rw [Zadd_eq (by omega) (by omega)] at *; omega))
  · skip
    refine r_50_12  (k := ?_)
    (first | exact ht (by rw [Zadd_eq (by omega) (by omega)] at *; omega) | exact hf (by rw [Zadd_eq (by omega) (by omega)] at *; omega))
set_option maxHeartbeats 2000000 in
theorem s_feed {d : Nat} {σ : Mem} {n : Nat} {Q : Pst} {a b p e g : Int} (hG : GR σ) (hs : 0 ≤ σ 50 3 ∧ σ 50 3 ≤ 600) (hv : σ 50 3 + 20 ≤ 600 → Q (some (0, σ 50 3 + 20)) (fd5 51 50 3 a b p e g σ) n) (hn : ¬ σ 50 3 + 20 ≤ 600 → Q (some (0, -1)) σ n) : EVM (d + 1) 104 [(21, 0), (0, a), (0, b), (0, p), (0, e), (0, g)] σ n Q := by
  show EV (d + 1) 104 0 [(21, 0), (0, a), (0, b), (0, p), (0, e), (0, g)] [] σ n Q
  refine r_104_0 (hG := hG) (k := ?_)
  refine s_hasRoom hs (by decide) (fun c => ?_) (fun c => ?_)
  rotate_left
  · dsimp only [Option.toList_some, List.cons_append, List.nil_append]
    refine r_104_9 (ht := fun c => absurd c (by decide)) (hf := fun _ => ?_)
    exact r_104_12 (k := hn c)
  dsimp only [Option.toList_some, List.cons_append, List.nil_append]
  refine r_104_9 (ht := fun _ => ?_) (hf := fun c => absurd c (by decide))
  have e0 := hs.1
  refine r_104_14 (hG := hG) (k := ?_)
  refine s_append hG (by omega) (by omega) ?_
  dsimp only [Option.toList_none, List.nil_append]
  have e1 := @tp4_sz 51 50 3 a σ (by omega) (by omega)
  refine r_104_22 (hG := (tp4_GR hG)) (k := ?_)
  refine s_append (tp4_GR hG) (by omega) (by omega) ?_
  dsimp only [Option.toList_none, List.nil_append]
  have e2 := @tp4_sz 51 50 3 b (tp4 51 50 3 a σ) (by omega) (by omega)
  refine r_104_30 (hG := (tp4_GR (tp4_GR hG))) (k := ?_)
  refine s_append (tp4_GR (tp4_GR hG)) (by omega) (by omega) ?_
  dsimp only [Option.toList_none, List.nil_append]
  have e3 := @tp4_sz 51 50 3 p (tp4 51 50 3 b (tp4 51 50 3 a σ)) (by omega) (by omega)
  refine r_104_38 (hG := (tp4_GR (tp4_GR (tp4_GR hG)))) (k := ?_)
  refine s_append (tp4_GR (tp4_GR (tp4_GR hG))) (by omega) (by omega) ?_
  dsimp only [Option.toList_none, List.nil_append]
  have e4 := @tp4_sz 51 50 3 e (tp4 51 50 3 p (tp4 51 50 3 b (tp4 51 50 3 a σ))) (by omega) (by omega)
  refine r_104_47 (hG := (tp4_GR (tp4_GR (tp4_GR (tp4_GR hG))))) (k := ?_)
  refine s_append (tp4_GR (tp4_GR (tp4_GR (tp4_GR hG)))) (by omega) (by omega) ?_
  dsimp only [Option.toList_none, List.nil_append]
  have e5 := @tp4_sz 51 50 3 g (tp4 51 50 3 e (tp4 51 50 3 p (tp4 51 50 3 b (tp4 51 50 3 a σ)))) (by omega) (by omega)
  refine r_104_56 (hG := (tp4_GR (tp4_GR (tp4_GR (tp4_GR (tp4_GR hG)))))) (k := ?_)
  have e9 : (tp4 51 50 3 g (tp4 51 50 3 e (tp4 51 50 3 p (tp4 51 50 3 b (tp4 51 50 3 a σ))))) 50 3 = σ 50 3 + 20 := by omega
  rw [e9]; exact hv (by omega)
set_option maxHeartbeats 2000000 in
theorem m_feed {d : Nat} {σ : Mem} {n : Nat} {Q : Pst} {a b p e g : Int} (hG : GR σ) (hs : 0 ≤ σ 69 40 ∧ σ 69 40 ≤ 600) (hv : σ 69 40 + 20 ≤ 600 → Q (some (0, σ 69 40 + 20)) (fd5 98 69 40 a b p e g σ) n) (hn : ¬ σ 69 40 + 20 ≤ 600 → Q (some (0, -1)) σ n) : EVM (d + 1) 161 [(22, 69), (0, a), (0, b), (0, p), (0, e), (0, g)] σ n Q := by
  show EV (d + 1) 161 0 [(22, 69), (0, a), (0, b), (0, p), (0, e), (0, g)] [] σ n Q
  have z := Zadd_eq (a := σ 69 40) (b := 20) (by omega) (by omega)
  refine r_161_0 (ht := fun c => ?_) (hf := fun c => ?_)
  rotate_left
  · exact r_161_13 (k := hn (by omega))
  have e0 := hs.1
  refine r_161_15 (k := ?_)
  refine m_four hG (by omega) (by omega) ?_
  dsimp only [Option.toList_none, List.nil_append]
  have e1 := @tp4_sz 98 69 40 a σ (by omega) (by omega)
  refine r_161_20 (k := ?_)
  refine m_four (tp4_GRm hG) (by omega) (by omega) ?_
  dsimp only [Option.toList_none, List.nil_append]
  have e2 := @tp4_sz 98 69 40 b (tp4 98 69 40 a σ) (by omega) (by omega)
  refine r_161_25 (k := ?_)
  refine m_four (tp4_GRm (tp4_GRm hG)) (by omega) (by omega) ?_
  dsimp only [Option.toList_none, List.nil_append]
  have e3 := @tp4_sz 98 69 40 p (tp4 98 69 40 b (tp4 98 69 40 a σ)) (by omega) (by omega)
  refine r_161_30 (k := ?_)
  refine m_four (tp4_GRm (tp4_GRm (tp4_GRm hG))) (by omega) (by omega) ?_
  dsimp only [Option.toList_none, List.nil_append]
  have e4 := @tp4_sz 98 69 40 e (tp4 98 69 40 p (tp4 98 69 40 b (tp4 98 69 40 a σ))) (by omega) (by omega)
  refine r_161_36 (k := ?_)
  refine m_four (tp4_GRm (tp4_GRm (tp4_GRm (tp4_GRm hG)))) (by omega) (by omega) ?_
  dsimp only [Option.toList_none, List.nil_append]
  have e5 := @tp4_sz 98 69 40 g (tp4 98 69 40 e (tp4 98 69 40 p (tp4 98 69 40 b (tp4 98 69 40 a σ)))) (by omega) (by omega)
  refine r_161_42 (k := ?_)
  have e9 : (tp4 98 69 40 g (tp4 98 69 40 e (tp4 98 69 40 p (tp4 98 69 40 b (tp4 98 69 40 a σ))))) 69 40 = σ 69 40 + 20 := by omega
  rw [e9]; exact hv (by omega)
def clN (key day : Int → Int) (s y : Int) : Nat → Int
  | 0 => -1
  | j + 1 => if key j = s ∧ day j ≤ y ∧ (clN key day s y j = -1 ∨ day (clN key day s y j) ≤ day j) then (j : Int) else clN key day s y j
theorem clN_s {key day : Int → Int} {s y : Int} {j : Nat} : clN key day s y (j + 1) = if key j = s ∧ day j ≤ y ∧ (clN key day s y j = -1 ∨ day (clN key day s y j) ≤ day j) then (j : Int) else clN key day s y j := rfl
theorem clN_b {key day : Int → Int} {s y : Int} (j : Nat) : -1 ≤ clN key day s y j ∧ clN key day s y j < j ∧ (0 ≤ clN key day s y j → key (clN key day s y j) = s) := by
  induction j with
  | zero => exact ⟨by show (-1 : Int) ≤ -1; decide, by show (-1 : Int) < 0; decide, fun h => absurd (show (0 : Int) ≤ -1 from h) (by decide)⟩
  | succ j ih =>
    rw [clN_s]
    split
    · rename_i h; exact ⟨by omega, by omega, fun _ => h.1⟩
    · exact ⟨ih.1, by omega, ih.2.2⟩
theorem clN_congr {k1 k2 d1 d2 : Int → Int} {s y : Int} (m : Nat) (hk : ∀ i : Nat, i < m → k1 i = k2 i) (hd : ∀ i : Nat, i < m → d1 i = d2 i) : clN k1 d1 s y m = clN k2 d2 s y m := by
  induction m with
  | zero => rfl
  | succ j ih =>
    have e := ih (fun i hi => hk i (by omega)) (fun i hi => hd i (by omega))
    rw [clN_s, clN_s, e, hk j (by omega), hd j (by omega)]
    have b := @clN_b k2 d2 s y j
    by_cases h : clN k2 d2 s y j = -1
    · simp only [h, true_or]
    · have e2 := hd (clN k2 d2 s y j).toNat (by omega)
      rw [show (((clN k2 d2 s y j).toNat : Nat) : Int) = clN k2 d2 s y j by omega] at e2
      rw [e2]
/-- what a text tells: its number at the clause that holds -/
def tlF (h s : Int) (v : Int → Int) : Int := if h = -1 then (if s = 2 ∨ s = 3 then 100 else 0) else v h
set_option maxHeartbeats 2000000 in
theorem l_told59 {d : Nat} {n : Nat} {Q : Pst} {y w s : Int} : ∀ (k : Nat) (j : Nat) (h : Int) (σ : Mem), (GR σ) → (σ 59 4 ≤ 60) → (σ 59 4 - j < k) → ((j : Int) ≤ σ 59 4) → (-1 ≤ h ∧ h < j) → (h = clN (σ 61) (σ 60) s y j) → (∀ v, v = tlF (clN (σ 61) (σ 60) s y (σ 59 4).toNat) s (fun h => if w = 5 then σ 63 h else σ 62 h) → Q (some (0, v)) σ n) → EV d 16 17 [(12, 59), (0, y), (0, w), (0, s), (0, h), (0, (j : Int))] [] σ n Q := by
  intro k
  induction k with
  | zero => intros; exfalso; omega
  | succ k ih =>
    intro j h σ hG hh hk hj hb hc hq
    refine r59_16_17  (ht := fun c => ?_) (hf := fun c => ?_)
    · skip
      refine r59_16_88  (ht := fun c => ?_) (hf := fun c => ?_)
      · skip
        refine r59_16_111  (ht := fun c => ?_) (hf := fun c => ?_)
        · skip
          refine r59_16_126 (hG := hG) (h0 := (by first | omega | (simp (disch := omega) only [Zadd_eq, Zsub_eq, Zmul_eq]; omega))) (k := ?_)
          exact hq _ (by rw [show (σ 59 4).toNat = j by omega, ← hc]; unfold tlF; (try dsimp only); repeat' split <;> omega)
        · skip
          refine r59_16_116 (hG := hG) (h0 := (by first | omega | (simp (disch := omega) only [Zadd_eq, Zsub_eq, Zmul_eq]; omega))) (k := ?_)
          exact hq _ (by rw [show (σ 59 4).toNat = j by omega, ← hc]; unfold tlF; (try dsimp only); repeat' split <;> omega)
      · skip
        refine r59_16_94  (ht := fun c => ?_) (hf := fun c => ?_)
        · skip
          refine r59_16_104  (k := ?_)
          exact hq _ (by rw [show (σ 59 4).toNat = j by omega, ← hc]; unfold tlF; (try dsimp only); repeat' split <;> omega)
        · skip
          refine r59_16_99  (ht := fun c => ?_) (hf := fun c => ?_)
          · skip
            refine r59_16_109  (k := ?_)
            exact hq _ (by rw [show (σ 59 4).toNat = j by omega, ← hc]; unfold tlF; (try dsimp only); repeat' split <;> omega)
          · skip
            refine r59_16_104  (k := ?_)
            exact hq _ (by rw [show (σ 59 4).toNat = j by omega, ← hc]; unfold tlF; (try dsimp only); repeat' split <;> omega)
    · skip
      refine r59_16_26  (ht := fun c => ?_) (hf := fun c => ?_)
      · skip
        refine r59_16_88  (ht := fun c => ?_) (hf := fun c => ?_)
        · skip
          refine r59_16_111  (ht := fun c => ?_) (hf := fun c => ?_)
          · skip
            refine r59_16_126 (hG := hG) (h0 := (by first | omega | (simp (disch := omega) only [Zadd_eq, Zsub_eq, Zmul_eq]; omega))) (k := ?_)
            exact hq _ (by rw [show (σ 59 4).toNat = j by omega, ← hc]; unfold tlF; (try dsimp only); repeat' split <;> omega)
          · skip
            refine r59_16_116 (hG := hG) (h0 := (by first | omega | (simp (disch := omega) only [Zadd_eq, Zsub_eq, Zmul_eq]; omega))) (k := ?_)
            exact hq _ (by rw [show (σ 59 4).toNat = j by omega, ← hc]; unfold tlF; (try dsimp only); repeat' split <;> omega)
        · skip
          refine r59_16_94  (ht := fun c => ?_) (hf := fun c => ?_)
          · skip
            refine r59_16_104  (k := ?_)
            exact hq _ (by rw [show (σ 59 4).toNat = j by omega, ← hc]; unfold tlF; (try dsimp only); repeat' split <;> omega)
          · skip
            refine r59_16_99  (ht := fun c => ?_) (hf := fun c => ?_)
            · skip
              refine r59_16_109  (k := ?_)
              exact hq _ (by rw [show (σ 59 4).toNat = j by omega, ← hc]; unfold tlF; (try dsimp only); repeat' split <;> omega)
            · skip
              refine r59_16_104  (k := ?_)
              exact hq _ (by rw [show (σ 59 4).toNat = j by omega, ← hc]; unfold tlF; (try dsimp only); repeat' split <;> omega)
      · skip
        refine r59_16_33 (hG := hG) (h0 := (by first | omega | (simp (disch := omega) only [Zadd_eq, Zsub_eq, Zmul_eq]; omega))) (ht := fun c => ?_) (hf := fun c => ?_)
        · skip
          refine r59_16_82  (k := ?_)
          rw [Zadd_nat (by omega)]
          refine ih (j + 1) _ σ hG hh (by omega) (by omega) (by omega) (by rw [clN_s, ← hc]; split <;> omega) hq
        · skip
          refine r59_16_44 (hG := hG) (h0 := (by first | omega | (simp (disch := omega) only [Zadd_eq, Zsub_eq, Zmul_eq]; omega))) (ht := fun c => ?_) (hf := fun c => ?_)
          · skip
            refine r59_16_82  (k := ?_)
            rw [Zadd_nat (by omega)]
            refine ih (j + 1) _ σ hG hh (by omega) (by omega) (by omega) (by rw [clN_s, ← hc]; split <;> omega) hq
          · skip
            refine r59_16_55  (ht := fun c => ?_) (hf := fun c => ?_)
            · skip
              refine r59_16_78  (k := ?_)
              rw [Zadd_nat (by omega)]
              refine ih (j + 1) _ σ hG hh (by omega) (by omega) (by omega) (by rw [clN_s, ← hc]; split <;> omega) hq
            · skip
              refine r59_16_61 (hG := hG) (h0 := (by first | omega | (simp (disch := omega) only [Zadd_eq, Zsub_eq, Zmul_eq]; omega))) (h1 := (by first | omega | (simp (disch := omega) only [Zadd_eq, Zsub_eq, Zmul_eq]; omega))) (ht := fun c => ?_) (hf := fun c => ?_)
              · skip
                refine r59_16_82  (k := ?_)
                rw [Zadd_nat (by omega)]
                refine ih (j + 1) _ σ hG hh (by omega) (by omega) (by omega) (by rw [clN_s, ← hc]; split <;> omega) hq
              · skip
                refine r59_16_78  (k := ?_)
                rw [Zadd_nat (by omega)]
                refine ih (j + 1) _ σ hG hh (by omega) (by omega) (by omega) (by rw [clN_s, ← hc]; split <;> omega) hq
set_option maxHeartbeats 2000000 in
theorem s_told59 {d : Nat} {σ : Mem} {n : Nat} {Q : Pst} {y w : Int} (hG : GR σ) (hh : 0 ≤ σ 59 4 ∧ σ 59 4 ≤ 60) (k : ∀ v, v = (tlF (clN (σ 61) (σ 60) (if w = 5 then 4 else w) y (σ 59 4).toNat) (if w = 5 then 4 else w) (fun h => if w = 5 then σ 63 h else σ 62 h) : Int) → Q (some (0, v)) σ n) : EVM d 16 [(12, 59), (0, y), (0, w)] σ n Q := by
  show EV d 16 0 [(12, 59), (0, y), (0, w), (9, 0), (9, 0), (9, 0)] [] σ n Q
  refine r59_16_0  (ht := fun c => ?_) (hf := fun c => ?_)
  · skip
    refine r59_16_9  (k := ?_)
    (first | rw [if_pos (by assumption)] at k | rw [if_neg (by assumption)] at k)
    exact l_told59 ((σ 59 4).toNat + 1) 0 (-1) σ hG hh.2 (by omega) (by omega) (by omega) rfl k
  · skip
    refine r59_16_5  (k := ?_)
    (first | rw [if_pos (by assumption)] at k | rw [if_neg (by assumption)] at k)
    exact l_told59 ((σ 59 4).toNat + 1) 0 (-1) σ hG hh.2 (by omega) (by omega) (by omega) rfl k
set_option maxHeartbeats 2000000 in
theorem l_told64 {d : Nat} {n : Nat} {Q : Pst} {y w s : Int} : ∀ (k : Nat) (j : Nat) (h : Int) (σ : Mem), (GR σ) → (σ 64 4 ≤ 60) → (σ 64 4 - j < k) → ((j : Int) ≤ σ 64 4) → (-1 ≤ h ∧ h < j) → (h = clN (σ 66) (σ 65) s y j) → (∀ v, v = tlF (clN (σ 66) (σ 65) s y (σ 64 4).toNat) s (fun h => if w = 5 then σ 68 h else σ 67 h) → Q (some (0, v)) σ n) → EV d 16 17 [(12, 64), (0, y), (0, w), (0, s), (0, h), (0, (j : Int))] [] σ n Q := by
  intro k
  induction k with
  | zero => intros; exfalso; omega
  | succ k ih =>
    intro j h σ hG hh hk hj hb hc hq
    refine r64_16_17  (ht := fun c => ?_) (hf := fun c => ?_)
    · skip
      refine r64_16_88  (ht := fun c => ?_) (hf := fun c => ?_)
      · skip
        refine r64_16_111  (ht := fun c => ?_) (hf := fun c => ?_)
        · skip
          refine r64_16_126 (hG := hG) (h0 := (by first | omega | (simp (disch := omega) only [Zadd_eq, Zsub_eq, Zmul_eq]; omega))) (k := ?_)
          exact hq _ (by rw [show (σ 64 4).toNat = j by omega, ← hc]; unfold tlF; (try dsimp only); repeat' split <;> omega)
        · skip
          refine r64_16_116 (hG := hG) (h0 := (by first | omega | (simp (disch := omega) only [Zadd_eq, Zsub_eq, Zmul_eq]; omega))) (k := ?_)
          exact hq _ (by rw [show (σ 64 4).toNat = j by omega, ← hc]; unfold tlF; (try dsimp only); repeat' split <;> omega)
      · skip
        refine r64_16_94  (ht := fun c => ?_) (hf := fun c => ?_)
        · skip
          refine r64_16_104  (k := ?_)
          exact hq _ (by rw [show (σ 64 4).toNat = j by omega, ← hc]; unfold tlF; (try dsimp only); repeat' split <;> omega)
        · skip
          refine r64_16_99  (ht := fun c => ?_) (hf := fun c => ?_)
          · skip
            refine r64_16_109  (k := ?_)
            exact hq _ (by rw [show (σ 64 4).toNat = j by omega, ← hc]; unfold tlF; (try dsimp only); repeat' split <;> omega)
          · skip
            refine r64_16_104  (k := ?_)
            exact hq _ (by rw [show (σ 64 4).toNat = j by omega, ← hc]; unfold tlF; (try dsimp only); repeat' split <;> omega)
    · skip
      refine r64_16_26  (ht := fun c => ?_) (hf := fun c => ?_)
      · skip
        refine r64_16_88  (ht := fun c => ?_) (hf := fun c => ?_)
        · skip
          refine r64_16_111  (ht := fun c => ?_) (hf := fun c => ?_)
          · skip
            refine r64_16_126 (hG := hG) (h0 := (by first | omega | (simp (disch := omega) only [Zadd_eq, Zsub_eq, Zmul_eq]; omega))) (k := ?_)
            exact hq _ (by rw [show (σ 64 4).toNat = j by omega, ← hc]; unfold tlF; (try dsimp only); repeat' split <;> omega)
          · skip
            refine r64_16_116 (hG := hG) (h0 := (by first | omega | (simp (disch := omega) only [Zadd_eq, Zsub_eq, Zmul_eq]; omega))) (k := ?_)
            exact hq _ (by rw [show (σ 64 4).toNat = j by omega, ← hc]; unfold tlF; (try dsimp only); repeat' split <;> omega)
        · skip
          refine r64_16_94  (ht := fun c => ?_) (hf := fun c => ?_)
          · skip
            refine r64_16_104  (k := ?_)
            exact hq _ (by rw [show (σ 64 4).toNat = j by omega, ← hc]; unfold tlF; (try dsimp only); repeat' split <;> omega)
          · skip
            refine r64_16_99  (ht := fun c => ?_) (hf := fun c => ?_)
            · skip
              refine r64_16_109  (k := ?_)
              exact hq _ (by rw [show (σ 64 4).toNat = j by omega, ← hc]; unfold tlF; (try dsimp only); repeat' split <;> omega)
            · skip
              refine r64_16_104  (k := ?_)
              exact hq _ (by rw [show (σ 64 4).toNat = j by omega, ← hc]; unfold tlF; (try dsimp only); repeat' split <;> omega)
      · skip
        refine r64_16_33 (hG := hG) (h0 := (by first | omega | (simp (disch := omega) only [Zadd_eq, Zsub_eq, Zmul_eq]; omega))) (ht := fun c => ?_) (hf := fun c => ?_)
        · skip
          refine r64_16_82  (k := ?_)
          rw [Zadd_nat (by omega)]
          refine ih (j + 1) _ σ hG hh (by omega) (by omega) (by omega) (by rw [clN_s, ← hc]; split <;> omega) hq
        · skip
          refine r64_16_44 (hG := hG) (h0 := (by first | omega | (simp (disch := omega) only [Zadd_eq, Zsub_eq, Zmul_eq]; omega))) (ht := fun c => ?_) (hf := fun c => ?_)
          · skip
            refine r64_16_82  (k := ?_)
            rw [Zadd_nat (by omega)]
            refine ih (j + 1) _ σ hG hh (by omega) (by omega) (by omega) (by rw [clN_s, ← hc]; split <;> omega) hq
          · skip
            refine r64_16_55  (ht := fun c => ?_) (hf := fun c => ?_)
            · skip
              refine r64_16_78  (k := ?_)
              rw [Zadd_nat (by omega)]
              refine ih (j + 1) _ σ hG hh (by omega) (by omega) (by omega) (by rw [clN_s, ← hc]; split <;> omega) hq
            · skip
              refine r64_16_61 (hG := hG) (h0 := (by first | omega | (simp (disch := omega) only [Zadd_eq, Zsub_eq, Zmul_eq]; omega))) (h1 := (by first | omega | (simp (disch := omega) only [Zadd_eq, Zsub_eq, Zmul_eq]; omega))) (ht := fun c => ?_) (hf := fun c => ?_)
              · skip
                refine r64_16_82  (k := ?_)
                rw [Zadd_nat (by omega)]
                refine ih (j + 1) _ σ hG hh (by omega) (by omega) (by omega) (by rw [clN_s, ← hc]; split <;> omega) hq
              · skip
                refine r64_16_78  (k := ?_)
                rw [Zadd_nat (by omega)]
                refine ih (j + 1) _ σ hG hh (by omega) (by omega) (by omega) (by rw [clN_s, ← hc]; split <;> omega) hq
set_option maxHeartbeats 2000000 in
theorem s_told64 {d : Nat} {σ : Mem} {n : Nat} {Q : Pst} {y w : Int} (hG : GR σ) (hh : 0 ≤ σ 64 4 ∧ σ 64 4 ≤ 60) (k : ∀ v, v = (tlF (clN (σ 66) (σ 65) (if w = 5 then 4 else w) y (σ 64 4).toNat) (if w = 5 then 4 else w) (fun h => if w = 5 then σ 68 h else σ 67 h) : Int) → Q (some (0, v)) σ n) : EVM d 16 [(12, 64), (0, y), (0, w)] σ n Q := by
  show EV d 16 0 [(12, 64), (0, y), (0, w), (9, 0), (9, 0), (9, 0)] [] σ n Q
  refine r64_16_0  (ht := fun c => ?_) (hf := fun c => ?_)
  · skip
    refine r64_16_9  (k := ?_)
    (first | rw [if_pos (by assumption)] at k | rw [if_neg (by assumption)] at k)
    exact l_told64 ((σ 64 4).toNat + 1) 0 (-1) σ hG hh.2 (by omega) (by omega) (by omega) rfl k
  · skip
    refine r64_16_5  (k := ?_)
    (first | rw [if_pos (by assumption)] at k | rw [if_neg (by assumption)] at k)
    exact l_told64 ((σ 64 4).toNat + 1) 0 (-1) σ hG hh.2 (by omega) (by omega) (by omega) rfl k
/-- what the class's text at T tells -/
def tlC (σ : Mem) (T y w : Int) : Int := tlF (clN (σ (T + 2)) (σ (T + 1)) (if w = 5 then 4 else w) y (σ T 4).toNat) (if w = 5 then 4 else w) (fun h => if w = 5 then σ (T + 4) h else σ (T + 3) h)
theorem s_told {d : Nat} {σ : Mem} {n : Nat} {Q : Pst} {T y w : Int} (hT : T = 59 ∨ T = 64) (hG : GR σ) (hh : 0 ≤ σ T 4 ∧ σ T 4 ≤ 60) (k : ∀ v, v = tlC σ T y w → Q (some (0, v)) σ n) : EVM d 16 [(12, T), (0, y), (0, w)] σ n Q := by
  rcases hT with rfl | rfl
  · exact s_told59 hG hh k
  · exact s_told64 hG hh k
set_option maxHeartbeats 2000000 in
theorem s_tells {d : Nat} {σ : Mem} {n : Nat} {Q : Pst} {y w : Int} (hG : GR σ) (hT : σ 0 9 = 59 ∨ σ 0 9 = 64) (hh : 0 ≤ σ (σ 0 9) 4 ∧ σ (σ 0 9) 4 ≤ 60) (k : ∀ v, v = (if (0 ≤ y ∧ y ≤ 999) ∧ ((0 ≤ w ∧ w ≤ 5) ∨ (11 ≤ w ∧ w ≤ 15)) then tlC σ (σ 0 9) y w else -1 : Int) → Q (some (0, v)) σ n) : EVM (d + 2) 107 [(21, 0), (0, y), (0, w)] σ n Q := by
  show EV (d + 2) 107 0 [(21, 0), (0, y), (0, w), (9, 0)] [] σ n Q
  refine r_107_0  (k := ?_)
  refine s_within (fun c => ?_) (fun c => ?_)
  · dsimp only [Option.toList_some, List.cons_append, List.nil_append]
    refine r_107_8  (k := ?_)
    refine s_isDay (fun c => ?_) (fun c => ?_)
    · dsimp only [Option.toList_some, List.cons_append, List.nil_append]
      refine r_107_13  (ht := fun c => absurd c (by decide)) (hf := fun _ => ?_)
      refine r_107_16  (ht := fun c => ?_) (hf := fun c => ?_)
      · skip
        refine r_107_31 (h0 := (by first | omega | (simp (disch := omega) only [Zadd_eq, Zsub_eq, Zmul_eq]; omega))) (k := ?_)
        refine s_told hT hG hh (fun v ev => ?_)
        dsimp only [Option.toList_some, Option.toList_none, List.cons_append, List.nil_append]
        refine r_107_40  (k := ?_)
        exact k _ (by first | (rw [if_pos (by omega)]; assumption) | (rw [if_neg (by omega)]))
      · skip
        refine r_107_20  (k := ?_)
        refine s_within (fun c => ?_) (fun c => ?_)
        · dsimp only [Option.toList_some, List.cons_append, List.nil_append]
          refine r_107_26  (ht := fun _ => ?_) (hf := fun c => absurd c (by decide))
          refine r_107_31 (h0 := (by first | omega | (simp (disch := omega) only [Zadd_eq, Zsub_eq, Zmul_eq]; omega))) (k := ?_)
          refine s_told hT hG hh (fun v ev => ?_)
          dsimp only [Option.toList_some, Option.toList_none, List.cons_append, List.nil_append]
          refine r_107_40  (k := ?_)
          exact k _ (by first | (rw [if_pos (by omega)]; assumption) | (rw [if_neg (by omega)]))
        · dsimp only [Option.toList_some, List.cons_append, List.nil_append]
          refine r_107_26  (ht := fun c => absurd c (by decide)) (hf := fun _ => ?_)
          refine r_107_29  (k := ?_)
          exact k _ (by first | (rw [if_pos (by omega)]; assumption) | (rw [if_neg (by omega)]))
    · dsimp only [Option.toList_some, List.cons_append, List.nil_append]
      refine r_107_13  (ht := fun _ => ?_) (hf := fun c => absurd c (by decide))
      refine r_107_29  (k := ?_)
      exact k _ (by first | (rw [if_pos (by omega)]; assumption) | (rw [if_neg (by omega)]))
  · dsimp only [Option.toList_some, List.cons_append, List.nil_append]
    refine r_107_8  (k := ?_)
    refine s_isDay (fun c => ?_) (fun c => ?_)
    · dsimp only [Option.toList_some, List.cons_append, List.nil_append]
      refine r_107_13  (ht := fun c => absurd c (by decide)) (hf := fun _ => ?_)
      refine r_107_16  (ht := fun c => ?_) (hf := fun c => ?_)
      · skip
        refine r_107_31 (h0 := (by first | omega | (simp (disch := omega) only [Zadd_eq, Zsub_eq, Zmul_eq]; omega))) (k := ?_)
        refine s_told hT hG hh (fun v ev => ?_)
        dsimp only [Option.toList_some, Option.toList_none, List.cons_append, List.nil_append]
        refine r_107_40  (k := ?_)
        exact k _ (by first | (rw [if_pos (by omega)]; assumption) | (rw [if_neg (by omega)]))
      · skip
        refine r_107_20  (k := ?_)
        refine s_within (fun c => ?_) (fun c => ?_)
        · dsimp only [Option.toList_some, List.cons_append, List.nil_append]
          refine r_107_26  (ht := fun _ => ?_) (hf := fun c => absurd c (by decide))
          refine r_107_31 (h0 := (by first | omega | (simp (disch := omega) only [Zadd_eq, Zsub_eq, Zmul_eq]; omega))) (k := ?_)
          refine s_told hT hG hh (fun v ev => ?_)
          dsimp only [Option.toList_some, Option.toList_none, List.cons_append, List.nil_append]
          refine r_107_40  (k := ?_)
          exact k _ (by first | (rw [if_pos (by omega)]; assumption) | (rw [if_neg (by omega)]))
        · dsimp only [Option.toList_some, List.cons_append, List.nil_append]
          refine r_107_26  (ht := fun c => absurd c (by decide)) (hf := fun _ => ?_)
          refine r_107_29  (k := ?_)
          exact k _ (by first | (rw [if_pos (by omega)]; assumption) | (rw [if_neg (by omega)]))
    · dsimp only [Option.toList_some, List.cons_append, List.nil_append]
      refine r_107_13  (ht := fun _ => ?_) (hf := fun c => absurd c (by decide))
      refine r_107_29  (k := ?_)
      exact k _ (by first | (rw [if_pos (by omega)]; assumption) | (rw [if_neg (by omega)]))
set_option maxHeartbeats 2000000 in
theorem l_clause {d : Nat} {n : Nat} {Q : Pst} {y s : Int} : ∀ (k : Nat) (j : Nat) (h : Int) (σ : Mem), (GR σ) → (σ 69 43 ≤ 60) → (σ 69 43 - j < k) → ((j : Int) ≤ σ 69 43) → (-1 ≤ h ∧ h < j) → (h = clN (σ 99) (σ 100) s y j) → (∀ v, v = clN (σ 99) (σ 100) s y (σ 69 43).toNat → Q (some (0, v)) σ n) → EV d 169 5 [(22, 69), (0, s), (0, y), (0, h), (0, (j : Int))] [] σ n Q := by
  intro k
  induction k with
  | zero => intros; exfalso; omega
  | succ k ih =>
    intro j h σ hG hh hk hj hb hc hq
    refine r_169_5  (ht := fun c => ?_) (hf := fun c => ?_)
    · skip
      refine r_169_65  (k := ?_)
      exact hq _ (by rw [show (σ 69 43).toNat = j by omega, ← hc])
    · skip
      refine r_169_14 (hG := hG) (h0 := (by first | omega | (simp (disch := omega) only [Zadd_eq, Zsub_eq, Zmul_eq]; omega))) (ht := fun c => ?_) (hf := fun c => ?_)
      · skip
        refine r_169_59  (k := ?_)
        rw [Zadd_nat (by omega)]
        refine ih (j + 1) _ σ hG hh (by omega) (by omega) (by omega) (by rw [clN_s, ← hc]; split <;> omega) hq
      · skip
        refine r_169_25 (hG := hG) (h0 := (by first | omega | (simp (disch := omega) only [Zadd_eq, Zsub_eq, Zmul_eq]; omega))) (ht := fun c => ?_) (hf := fun c => ?_)
        · skip
          refine r_169_59  (k := ?_)
          rw [Zadd_nat (by omega)]
          refine ih (j + 1) _ σ hG hh (by omega) (by omega) (by omega) (by rw [clN_s, ← hc]; split <;> omega) hq
        · skip
          refine r_169_36  (ht := fun c => ?_) (hf := fun c => ?_)
          · skip
            refine r_169_56  (k := ?_)
            rw [Zadd_nat (by omega)]
            refine ih (j + 1) _ σ hG hh (by omega) (by omega) (by omega) (by rw [clN_s, ← hc]; split <;> omega) hq
          · skip
            refine r_169_40 (hG := hG) (h0 := (by first | omega | (simp (disch := omega) only [Zadd_eq, Zsub_eq, Zmul_eq]; omega))) (h1 := (by first | omega | (simp (disch := omega) only [Zadd_eq, Zsub_eq, Zmul_eq]; omega))) (ht := fun c => ?_) (hf := fun c => ?_)
            · skip
              refine r_169_59  (k := ?_)
              rw [Zadd_nat (by omega)]
              refine ih (j + 1) _ σ hG hh (by omega) (by omega) (by omega) (by rw [clN_s, ← hc]; split <;> omega) hq
            · skip
              refine r_169_56  (k := ?_)
              rw [Zadd_nat (by omega)]
              refine ih (j + 1) _ σ hG hh (by omega) (by omega) (by omega) (by rw [clN_s, ← hc]; split <;> omega) hq
set_option maxHeartbeats 2000000 in
theorem m_clauseOf {d : Nat} {σ : Mem} {n : Nat} {Q : Pst} {y s : Int} (hG : GR σ) (hh : 0 ≤ σ 69 43 ∧ σ 69 43 ≤ 60) (k : ∀ v, v = (clN (σ 99) (σ 100) s y (σ 69 43).toNat : Int) → Q (some (0, v)) σ n) : EVM d 169 [(22, 69), (0, s), (0, y)] σ n Q := by
  show EV d 169 0 [(22, 69), (0, s), (0, y), (9, 0), (9, 0)] [] σ n Q
  refine r_169_0  (k := ?_)
  exact l_clause ((σ 69 43).toNat + 1) 0 (-1) σ hG hh.2 (by omega) (by omega) (by omega) rfl k
def tlM (σ : Mem) (y w : Int) : Int := tlF (clN (σ 99) (σ 100) (if w = 5 then 4 else w) y (σ 69 43).toNat) (if w = 5 then 4 else w) (fun h => if w = 4 then σ 102 h else σ 101 h)
set_option maxHeartbeats 2000000 in
theorem m_tellsOf {d : Nat} {σ : Mem} {n : Nat} {Q : Pst} {y w : Int} (hG : GR σ) (hh : 0 ≤ σ 69 43 ∧ σ 69 43 ≤ 60) (k : ∀ v, v = (tlM σ y w : Int) → Q (some (0, v)) σ n) : EVM (d + 1) 170 [(22, 69), (0, y), (0, w)] σ n Q := by
  show EV (d + 1) 170 0 [(22, 69), (0, y), (0, w), (9, 0)] [] σ n Q
  refine r_170_0  (ht := fun c => ?_) (hf := fun c => ?_)
  · skip
    refine r_170_10  (k := ?_)
    refine m_clauseOf hG hh (fun v ev => ?_)
    dsimp only [Option.toList_some, Option.toList_none, List.cons_append, List.nil_append]
    replace ev : v = clN (σ 99) (σ 100) (if w = 5 then 4 else w) y (σ 69 43).toNat := (by (first | rw [if_pos (by assumption)] | rw [if_neg (by assumption)]); exact ev)
    have b := @clN_b (σ 99) (σ 100) (if w = 5 then 4 else w) y (σ 69 43).toNat
    rw [← ev] at b
    refine r_170_15  (ht := fun c => ?_) (hf := fun c => ?_)
    · skip
      refine r_170_37  (ht := fun c => ?_) (hf := fun c => ?_)
      · skip
        refine r_170_51 (hG := hG) (h0 := (by first | omega | (simp (disch := omega) only [Zadd_eq, Zsub_eq, Zmul_eq]; omega))) (k := ?_)
        exact k _ (by unfold tlM tlF; rw [← ev]; (try dsimp only); repeat' split <;> omega)
      · skip
        refine r_170_42 (hG := hG) (h0 := (by first | omega | (simp (disch := omega) only [Zadd_eq, Zsub_eq, Zmul_eq]; omega))) (k := ?_)
        exact k _ (by unfold tlM tlF; rw [← ev]; (try dsimp only); repeat' split <;> omega)
    · skip
      refine r_170_20  (ht := fun c => ?_) (hf := fun c => ?_)
      · skip
        refine r_170_30  (k := ?_)
        exact k _ (by unfold tlM tlF; rw [← ev]; (try dsimp only); repeat' split <;> omega)
      · skip
        refine r_170_25  (ht := fun c => ?_) (hf := fun c => ?_)
        · skip
          refine r_170_35  (k := ?_)
          exact k _ (by unfold tlM tlF; rw [← ev]; (try dsimp only); repeat' split <;> omega)
        · skip
          refine r_170_30  (k := ?_)
          exact k _ (by unfold tlM tlF; rw [← ev]; (try dsimp only); repeat' split <;> omega)
  · skip
    refine r_170_6  (k := ?_)
    refine m_clauseOf hG hh (fun v ev => ?_)
    dsimp only [Option.toList_some, Option.toList_none, List.cons_append, List.nil_append]
    replace ev : v = clN (σ 99) (σ 100) (if w = 5 then 4 else w) y (σ 69 43).toNat := (by (first | rw [if_pos (by assumption)] | rw [if_neg (by assumption)]); exact ev)
    have b := @clN_b (σ 99) (σ 100) (if w = 5 then 4 else w) y (σ 69 43).toNat
    rw [← ev] at b
    refine r_170_15  (ht := fun c => ?_) (hf := fun c => ?_)
    · skip
      refine r_170_37  (ht := fun c => ?_) (hf := fun c => ?_)
      · skip
        refine r_170_51 (hG := hG) (h0 := (by first | omega | (simp (disch := omega) only [Zadd_eq, Zsub_eq, Zmul_eq]; omega))) (k := ?_)
        exact k _ (by unfold tlM tlF; rw [← ev]; (try dsimp only); repeat' split <;> omega)
      · skip
        refine r_170_42 (hG := hG) (h0 := (by first | omega | (simp (disch := omega) only [Zadd_eq, Zsub_eq, Zmul_eq]; omega))) (k := ?_)
        exact k _ (by unfold tlM tlF; rw [← ev]; (try dsimp only); repeat' split <;> omega)
    · skip
      refine r_170_20  (ht := fun c => ?_) (hf := fun c => ?_)
      · skip
        refine r_170_30  (k := ?_)
        exact k _ (by unfold tlM tlF; rw [← ev]; (try dsimp only); repeat' split <;> omega)
      · skip
        refine r_170_25  (ht := fun c => ?_) (hf := fun c => ?_)
        · skip
          refine r_170_35  (k := ?_)
          exact k _ (by unfold tlM tlF; rw [← ev]; (try dsimp only); repeat' split <;> omega)
        · skip
          refine r_170_30  (k := ?_)
          exact k _ (by unfold tlM tlF; rw [← ev]; (try dsimp only); repeat' split <;> omega)
set_option maxHeartbeats 2000000 in
theorem m_tells {d : Nat} {σ : Mem} {n : Nat} {Q : Pst} {y w : Int} (hG : GR σ) (hh : 0 ≤ σ 69 43 ∧ σ 69 43 ≤ 60) (k : ∀ v, v = (if (0 ≤ y ∧ y ≤ 999) ∧ ((0 ≤ w ∧ w ≤ 5) ∨ (11 ≤ w ∧ w ≤ 15)) then tlM σ y w else -1 : Int) → Q (some (0, v)) σ n) : EVM (d + 2) 171 [(22, 69), (0, y), (0, w)] σ n Q := by
  show EV (d + 2) 171 0 [(22, 69), (0, y), (0, w)] [] σ n Q
  refine r_171_0  (k := ?_)
  refine m_isDay (fun c => ?_) (fun c => ?_)
  · dsimp only [Option.toList_some, List.cons_append, List.nil_append]
    refine r_171_4  (ht := fun c => absurd c (by decide)) (hf := fun _ => ?_)
    refine r_171_7  (k := ?_)
    refine m_in (fun c => ?_) (fun c => ?_)
    · dsimp only [Option.toList_some, List.cons_append, List.nil_append]
      refine r_171_13  (ht := fun _ => ?_) (hf := fun c => absurd c (by decide))
      refine r_171_27  (k := ?_)
      refine m_tellsOf hG hh (fun v ev => ?_)
      dsimp only [Option.toList_some, Option.toList_none, List.cons_append, List.nil_append]
      refine r_171_33  (k := ?_)
      exact k _ (by first | (rw [if_pos (by omega)]; assumption) | (rw [if_neg (by omega)]))
    · dsimp only [Option.toList_some, List.cons_append, List.nil_append]
      refine r_171_13  (ht := fun c => absurd c (by decide)) (hf := fun _ => ?_)
      refine r_171_16  (k := ?_)
      refine m_in (fun c => ?_) (fun c => ?_)
      · dsimp only [Option.toList_some, List.cons_append, List.nil_append]
        refine r_171_24  (ht := fun c => absurd c (by decide)) (hf := fun _ => ?_)
        refine r_171_27  (k := ?_)
        refine m_tellsOf hG hh (fun v ev => ?_)
        dsimp only [Option.toList_some, Option.toList_none, List.cons_append, List.nil_append]
        refine r_171_33  (k := ?_)
        exact k _ (by first | (rw [if_pos (by omega)]; assumption) | (rw [if_neg (by omega)]))
      · dsimp only [Option.toList_some, List.cons_append, List.nil_append]
        refine r_171_24  (ht := fun _ => ?_) (hf := fun c => absurd c (by decide))
        refine r_171_36  (k := ?_)
        exact k _ (by first | (rw [if_pos (by omega)]; assumption) | (rw [if_neg (by omega)]))
  · dsimp only [Option.toList_some, List.cons_append, List.nil_append]
    refine r_171_4  (ht := fun _ => ?_) (hf := fun c => absurd c (by decide))
    refine r_171_36  (k := ?_)
    exact k _ (by first | (rw [if_pos (by omega)]; assumption) | (rw [if_neg (by omega)]))
