/-! plan: the reference: weighing, clashes, the search -/
set_option maxHeartbeats 2000000 in
theorem l_cpb {d : Nat} {n : Nat} {Q : Pst} {σ1 : Mem} {m : Nat} {x1 x2 x3 x4 x5 : Int} (hm : m ≤ 4) (hG1 : GR σ1) (h28 : σ1 69 28 = (m : Int)) (k : ∀ τ, (∀ c j, ¬ c = 96 → τ c j = σ1 c j) → (∀ s : Nat, s < m → τ 96 (s : Int) = σ1 95 (s : Int)) → Q none τ n) : ∀ (f j : Nat) (σ : Mem), j ≤ m → m - j < f → (∀ c i, ¬ c = 96 → σ c i = σ1 c i) → (∀ s : Nat, s < j → σ 96 (s : Int) = σ1 95 (s : Int)) → EV d 153 160 [(22, 69), (0, x1), (0, x2), (0, x3), (0, x4), (0, x5), (0, (j : Int))] [] σ n Q := by
  intro f
  induction f with
  | zero => intros; exfalso; omega
  | succ f ih =>
    intro j σ hj hk hf hs
    have e28 : σ 69 28 = (m : Int) := by rw [hf 69 28 (by decide)]; exact h28
    have hG : GR σ := GR.fr (fun c _ => decide (c = 96)) hG1 (fun c j q => hf c j (by simpa using q)) (by decide)
    refine r_153_160 (ht := fun c => ?_) (hf := fun c => ?_)
    · exact r_153_189 (k := k σ hf (fun s h => hs s (by omega)))
    · refine r_153_169 (hG := hG) (h0 := by omega) (k := ?_)
      rw [Zadd_nat (by omega), hf 95 _ (by decide)]
      refine ih (j + 1) _ (by omega) (by omega) (fun c i q => by rw [wr_ne q]; exact hf c i q) (fun s h => ?_)
      by_cases e : s = j
      · rw [e, wr_same]
      · rw [wr_nej (by omega)]; exact hs s (by omega)
theorem m_weighs {d : Nat} {n : Nat} {Q : Pst} {σ0 σ : Mem} {L pf : List Int} {TM : Nat → List Tm} {P : Nat} {x w kp : Int} {keep : Bool} {B : Bst} (hC : CM σ0 L TM P) (hX : QX σ0 σ L.length pf x B) (hv : vld TM pf) (hl : pf.length = L.length) (hk : ¬ kp = 0 ↔ keep = true) (ew : w = (cstM σ0 L TM P).2.1 pf) (hw : w ≤ B.1) (k : ∀ τ, QX σ0 τ L.length pf x (wgh keep (cstM σ0 L TM P) B pf) → Q none τ n) : EVM (d + 2) 153 [(22, 69), (0, w), (0, kp)] σ n Q := by
  show EV (d + 2) 153 0 [(22, 69), (0, w), (0, kp), (9, 0), (9, 0), (9, 0), (9, 0)] [] σ n Q
  have hC0 := hC
  obtain ⟨hG0, h4, h28, h94, hH, hd, hT, hl20, htv, ⟨hPp, hP5⟩, hho, hW, hr⟩ := hC
  have hG := hX.GR hG0
  have hk2 : kp = 0 ↔ keep = false := ⟨fun z => by cases keep with | false => rfl | true => exact absurd z (hk.mpr rfl), fun z => Decidable.byContradiction (fun z2 => by have := hk.mp z2; rw [z] at this; cases this)⟩
  have B1 := hX.2.1.1
  have B2 := hX.2.1.2.1
  have B3 := hX.2.1.2.2
  refine r_153_0 (k := ?_)
  refine m_changes hC0 hX hv hl ?_
  dsimp only [Option.toList_some, List.cons_append, List.nil_append]
  -- the sum over the persons
  have main : ¬ (w = B.1 ∧ keep = true ∧ B.2.1 < (cstM σ0 L TM P).2.2.1 pf) → ∀ l4 l5 l6, EV (d + 2) 153 26 [(22, 69), (0, w), (0, kp), (0, (cstM σ0 L TM P).2.2.1 pf), l4, l5, l6] [] σ n Q := fun hnot l4 l5 l6 => by
    refine r_153_26 (k := ?_)
    have loop : ∀ (f p : Nat) (t : Int) (l6 : AV) (τ : Mem), p ≤ P → P - p < f → (∀ c j, ¬ c = 97 → ¬ (c = 69 ∧ j = 33) → τ c j = σ c j) → (∀ q, q < p → hoR (alM σ0) (liP TM L (σ0 81) pf q) = true) → t = sumN (fun p => if liP TM L (σ0 81) pf p = [] then 0 else trT (wyM σ0) (σ0 83) (σ0 72 p) (liP TM L (σ0 81) pf p)) p → (0 ≤ t ∧ t ≤ 3000 * p) → EV (d + 2) 153 32 [(22, 69), (0, w), (0, kp), (0, (cstM σ0 L TM P).2.2.1 pf), (0, t), (0, (p : Int)), l6] [] τ n Q := by
      intro f
      induction f with
      | zero => intros; exfalso; omega
      | succ f ih =>
        intro p t l6 τ hp hf hM hok ht htb
        have fr : ∀ c j, ¬ (95 ≤ c ∧ c ≤ 97) → ¬ (c = 69 ∧ 33 ≤ j ∧ j ≤ 36) → τ c j = σ0 c j := fun c j a1 a2 => by rw [hM c j (by omega) (by omega)]; exact hX.1 c j a1 a2
        have e2 : τ 69 2 = (P : Int) := by rw [fr 69 2 (by decide) (by decide)]; exact hPp
        refine r_153_32 (ht := fun c => ?_) (hf := fun c => ?_)
        · have ep : p = P := by omega
          subst ep
          have okp : (cstM σ0 L TM p).1 pf = true := allN_iff.mpr hok
          have etr : t = (cstM σ0 L TM p).2.2.2 pf := ht
          have t34 : τ 69 34 = B.1 := by rw [hM 69 34 (by decide) (by decide)]; exact B1
          have t35 : τ 69 35 = B.2.1 := by rw [hM 69 35 (by decide) (by decide)]; exact B2
          have t36 : τ 69 36 = B.2.2.1 := by rw [hM 69 36 (by decide) (by decide)]; exact B3
          have QXτ : QX σ0 τ L.length pf x B := ⟨fr, ⟨t34, t35, t36⟩, fun s hs => by rw [hM 95 _ (by decide) (by omega)]; exact hX.2.2.1 s hs, by rw [hM 95 _ (by decide) (by omega)]; exact hX.2.2.2.1, fun s h1 h2 => by rw [hM 95 _ (by decide) (by omega)]; exact hX.2.2.2.2.1 s h1 h2, fun s hs => by rw [hM 96 _ (by decide) (by omega)]; exact hX.2.2.2.2.2 s hs⟩
          have yes : btr keep w ((cstM σ0 L TM p).2.2.1 pf) t B = true → ∀ x5 l6, EV (d + 2) 153 128 [(22, 69), (0, w), (0, kp), (0, (cstM σ0 L TM p).2.2.1 pf), (0, t), (0, x5), l6] [] τ n Q := fun hb x5 l6 => by
            refine r_153_128 (ht := fun _ => ?_) (hf := fun c => absurd c (by decide))
            refine r_153_141 (k := ?_)
            have ewg : wgh keep (cstM σ0 L TM p) B pf = (w, (cstM σ0 L TM p).2.2.1 pf, t, pf) := by unfold wgh; rw [if_pos ⟨okp, by rw [← ew, ← etr]; exact hb⟩, ← ew, ← etr]
            rw [ewg] at k
            have fw : ∀ c j, ¬ (c = 69 ∧ 34 ≤ j ∧ j ≤ 36) → wrM (wrM (wrM τ 69 34 w) 69 35 ((cstM σ0 L TM p).2.2.1 pf)) 69 36 t c j = τ c j := fun c j q => by rw [wr_j (by omega), wr_j (by omega), wr_j (by omega)]
            have hGw : GR (wrM (wrM (wrM τ 69 34 w) 69 35 ((cstM σ0 L TM p).2.2.1 pf)) 69 36 t) := GR.wr (GR.wr (GR.wr (QXτ.GR hG0) (by decide)) (by decide)) (by decide)
            refine l_cpb (m := L.length) h4 hGw (by rw [fw 69 28 (by decide), fr 69 28 (by decide) (by decide)]; exact h28) (fun τ2 g1 g2 => ?_) (L.length + 1) 0 _ (by omega) (by omega) (fun _ _ _ => rfl) (fun s hs => by omega)
            refine k τ2 ⟨fun c j a1 a2 => ?_, ⟨?_, ?_, ?_⟩, fun s hs => ?_, ?_, fun s h1 h2 => ?_, fun s hs => ?_⟩
            · rw [g1 c j (by omega), fw c j (by omega)]; exact fr c j a1 a2
            · rw [g1 69 34 (by decide), wr_nej (by decide), wr_nej (by decide), wr_same]
            · rw [g1 69 35 (by decide), wr_nej (by decide), wr_same]
            · rw [g1 69 36 (by decide), wr_same]
            · rw [g1 95 _ (by decide), fw 95 _ (by omega)]; exact QXτ.2.2.1 s hs
            · rw [g1 95 _ (by decide), fw 95 _ (by omega)]; exact QXτ.2.2.2.1
            · rw [g1 95 _ (by decide), fw 95 _ (by omega)]; exact QXτ.2.2.2.2.1 s h1 h2
            · rw [g2 s hs, fw 95 _ (by omega)]; exact QXτ.2.2.1 s (by omega)
          have no : ¬ btr keep w ((cstM σ0 L TM p).2.2.1 pf) t B = true → ∀ x5 l6, EV (d + 2) 153 132 [(22, 69), (0, w), (0, kp), (0, (cstM σ0 L TM p).2.2.1 pf), (0, t), (0, x5), l6] [] τ n Q := fun hb x5 l6 => by
            refine r_153_132 (ht := fun c => absurd rfl c) (hf := fun _ => ?_)
            refine r_153_140 (k := k τ ?_)
            have ewg : wgh keep (cstM σ0 L TM p) B pf = B := by unfold wgh; rw [if_neg (fun z => hb (by rw [ew, etr]; exact z.2))]
            rw [ewg]; exact QXτ
          refine r_153_87 (ht := fun c2 => ?_) (hf := fun c2 => ?_)
          · exact yes (decide_eq_true (Or.inl (by omega))) _ _
          · rw [t34] at c2
            have weq : w = B.1 := by omega
            refine r_153_95 (ht := fun c3 => ?_) (hf := fun c3 => ?_)
            · have kf := hk2.mp c3
              refine r_153_107 (ht := fun _ => ?_) (hf := fun c => absurd c3 c)
              refine r_153_119 (ht := fun c4 => ?_) (hf := fun c4 => ?_)
              · refine no (fun z => ?_) _ _
                rcases of_decide_eq_true z with z | ⟨z1, ⟨z2, z3⟩ | ⟨z2, z3⟩⟩
                · omega
                · rw [kf] at z2; cases z2
                · omega
              · exact yes (decide_eq_true (Or.inr ⟨weq, Or.inr ⟨Or.inl kf, by omega⟩⟩)) _ _
            · have kt := hk.mp c3
              refine r_153_99 (ht := fun c4 => ?_) (hf := fun c4 => ?_)
              · exact yes (decide_eq_true (Or.inr ⟨weq, Or.inl ⟨kt, by omega⟩⟩)) _ _
              · refine r_153_107 (ht := fun c => absurd c c3) (hf := fun _ => ?_)
                refine r_153_111 (ht := fun c5 => ?_) (hf := fun c5 => ?_)
                · exfalso; exact hnot ⟨weq, kt, by omega⟩
                · refine r_153_119 (ht := fun c6 => ?_) (hf := fun c6 => ?_)
                  · refine no (fun z => ?_) _ _
                    rcases of_decide_eq_true z with z | ⟨z1, ⟨z2, z3⟩ | ⟨z2, z3⟩⟩
                    · omega
                    · omega
                    · omega
                  · exact yes (decide_eq_true (Or.inr ⟨weq, Or.inr ⟨Or.inr (by omega), by omega⟩⟩)) _ _
        · have hpP : p < P := by omega
          refine r_153_41 (k := ?_)
          rw [fr 69 28 (by decide) (by decide), h28]
          refine m_collects (d := d) hC0 hX hv hl (by omega) hM (fun τ2 hM2 => ?_)
          dsimp only [Option.toList_none, List.nil_append]
          have fr2 : ∀ c j, ¬ (95 ≤ c ∧ c ≤ 97) → ¬ (c = 69 ∧ 33 ≤ j ∧ j ≤ 36) → τ2 c j = σ0 c j := fun c j a1 a2 => by rw [hM2.1 c j (by omega) (by omega)]; exact hX.1 c j a1 a2
          have hG2 := hM2.GR hG
          have e81 : τ2 81 = σ0 81 := funext fun j => fr2 81 j (by decide) (by omega)
          have e82 : τ2 82 = σ0 82 := funext fun j => fr2 82 j (by decide) (by omega)
          have e83 : τ2 83 = σ0 83 := funext fun j => fr2 83 j (by decide) (by omega)
          have e70 : τ2 70 = σ0 70 := funext fun j => fr2 70 j (by decide) (by omega)
          have ewy : wyM τ2 = wyM σ0 := by funext a b; unfold wyM; rw [e70]
          have eal : alM τ2 = alM σ0 := by funext a b; unfold alM; rw [ewy, e81, e82, e83, fr2 69 11 (by decide) (by decide)]
          have hmem : ∀ e ∈ liP TM L (σ0 81) pf p, HR τ2 e := fun e he => by
            have := hH e (List.mem_filter.mp (isR_mem.mp he)).1
            unfold HR at this ⊢
            rw [e81, e82, e83]; exact this
          have b3 : (liP TM L (σ0 81) pf p).length ≤ 4 := by
            unfold liP; rw [isR_len]
            have := List.length_filter_le (sH TM L pf p) L
            omega
          refine r_153_51 (k := ?_)
          refine m_holds hG2 hM2.2.1 (by omega) hM2.2.2 hmem (fun c2 => ?_) (fun c2 => ?_)
          · rw [eal] at c2
            dsimp only [Option.toList_some, List.cons_append, List.nil_append]
            refine r_153_55 (ht := fun _ => ?_) (hf := fun c => absurd c (by decide))
            have hok2 : ∀ q, q < p + 1 → hoR (alM σ0) (liP TM L (σ0 81) pf q) = true := fun q hq => by
              by_cases e : q = p
              · rw [e]; exact c2
              · exact hok q (by omega)
            have hs33 := hM2.2.1
            refine r_153_59 (ht := fun c3 => ?_) (hf := fun c3 => ?_)
            · have hne : ¬ liP TM L (σ0 81) pf p = [] := fun z => c3 (by rw [hs33, z]; rfl)
              refine r_153_72 (k := ?_)
              have e72 := fr2 72 p (by decide) (by omega)
              have hhp := hho p (by omega) (by omega)
              refine m_journeysOf hG2 (fun j h0 h1 => by rw [e70]; exact hW j h0 h1) hs33 (by omega) hM2.2.2 (by omega) (by rw [e72]; exact hhp) hmem (fun v ev => ?_)
              rw [ewy, e83, e72] at ev
              dsimp only [Option.toList_some, List.cons_append, List.nil_append]
              refine r_153_78 (k := ?_)
              have b1 := trR_b (w := wyM σ0) (tw := σ0 83) (home := σ0 72 p) (wyM_b hW) (liP TM L (σ0 81) pf p)
              have b2 := wyM_b hW (trR (wyM σ0) (σ0 83) (σ0 72 p) (liP TM L (σ0 81) pf p)).1 (σ0 72 p)
              have b4 : 0 ≤ v ∧ v ≤ 3000 := by rw [ev]; unfold trT; omega
              rw [Zadd_eq (a := t) (by omega) (by omega), Zadd_nat (by omega)]
              refine ih (p + 1) _ _ τ2 (by omega) (by omega) hM2.1 hok2 ?_ (by omega)
              rw [sumN_s, ← ht, if_neg hne, ← ev]
            · have hz : liP TM L (σ0 81) pf p = [] := List.eq_nil_of_length_eq_zero (by omega)
              refine r_153_68 (k := ?_)
              rw [Zadd_eq (a := t) (b := 0) (by omega) (by omega), Zadd_nat (by omega)]
              refine ih (p + 1) _ _ τ2 (by omega) (by omega) hM2.1 hok2 ?_ (by omega)
              rw [sumN_s, ← ht, if_pos hz]
          · rw [eal] at c2
            dsimp only [Option.toList_some, List.cons_append, List.nil_append]
            refine r_153_55 (ht := fun c => absurd rfl c) (hf := fun _ => ?_)
            refine r_153_58 (k := k τ2 ?_)
            have ewg : wgh keep (cstM σ0 L TM P) B pf = B := by unfold wgh; rw [if_neg (fun z => c2 (allN_iff.mp z.1 p hpP))]
            rw [ewg]
            exact ⟨fr2, ⟨by rw [hM2.1 69 34 (by decide) (by decide)]; exact B1, by rw [hM2.1 69 35 (by decide) (by decide)]; exact B2, by rw [hM2.1 69 36 (by decide) (by decide)]; exact B3⟩, fun s hs => by rw [hM2.1 95 _ (by decide) (by omega)]; exact hX.2.2.1 s hs, by rw [hM2.1 95 _ (by decide) (by omega)]; exact hX.2.2.2.1, fun s h1 h2 => by rw [hM2.1 95 _ (by decide) (by omega)]; exact hX.2.2.2.2.1 s h1 h2, fun s hs => by rw [hM2.1 96 _ (by decide) (by omega)]; exact hX.2.2.2.2.2 s hs⟩
    exact loop (P + 1) 0 0 _ σ (by omega) (by omega) (fun _ _ _ _ => rfl) (fun q hq => by omega) rfl (by omega)
  refine r_153_4 (ht := fun c => ?_) (hf := fun c => ?_)
  · exact main (fun z => c (by rw [B1]; exact z.1)) _ _ _
  · refine r_153_13 (ht := fun c2 => ?_) (hf := fun c2 => ?_)
    · exact main (fun z => by have := hk2.mp c2; rw [z.2.1] at this; cases this) _ _ _
    · refine r_153_17 (ht := fun c3 => ?_) (hf := fun c3 => ?_)
      · exact main (fun z => by omega) _ _ _
      · refine r_153_25 (k := k σ ?_)
        have ewg : wgh keep (cstM σ0 L TM P) B pf = B := by
          unfold wgh
          refine if_neg (fun z => ?_)
          rcases of_decide_eq_true z.2 with z | ⟨z1, ⟨z2, z3⟩ | ⟨z2 | z2, z3⟩⟩
          · omega
          · omega
          · have := hk.mp c2; rw [z2] at this; cases this
          · omega
        rw [ewg]; exact hX
