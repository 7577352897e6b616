/-! plan: the reference -/
def TMm (σ : Mem) (P : Nat) (L : List Int) (s : Nat) : List Tm := tmL (abM σ (L.getD s 0)) P (90 < σ 82 (L.getD s 0)) (σ 84 (L.getD s 0))
theorem abM_fr2 {σ τ : Mem} {h : Int} (hf : ∀ c j, c < 90 → ¬ (c = 69 ∧ j = 28) → τ c j = σ c j) : abM τ h = abM σ h := by
  have e : ∀ c, c < 90 → ¬ c = 69 → τ c = σ c := fun c hc h9 => funext fun j => hf c j hc (fun z => h9 z.1)
  funext p t
  unfold abM gdM
  rw [e 78 (by decide) (by decide), e 79 (by decide) (by decide), e 85 (by decide) (by decide), e 80 (by decide) (by decide), e 73 (by decide) (by decide), e 74 (by decide) (by decide), e 75 (by decide) (by decide), e 76 (by decide) (by decide), e 77 (by decide) (by decide), hf 69 4 (by decide) (by decide), e 71 (by decide) (by decide)]
theorem PM.fr2 {σ τ : Mem} (hP : PM σ) (hf : ∀ c j, c < 90 → ¬ (c = 69 ∧ j = 28) → τ c j = σ c j) : PM τ := by
  have e : ∀ c, c < 90 → ¬ c = 69 → τ c = σ c := fun c hc h9 => funext fun j => hf c j hc (fun z => h9 z.1)
  unfold PM
  rw [hf 69 4 (by decide) (by decide), e 71 (by decide) (by decide), e 75 (by decide) (by decide)]
  exact hP
/-- slots and teams of the hearings of a day that are told so far -/
def GS (σ0 σ : Mem) (P : Nat) (L : List Int) : Prop := (∀ c j, ¬ (c = 69 ∧ j = 28) → ¬ (90 ≤ c ∧ c ≤ 94) → σ c j = σ0 c j) ∧ σ 69 28 = (L.length : Int) ∧ (∀ s : Nat, s < L.length → σ 94 (s : Int) = L.getD s 0) ∧ (∀ s : Nat, s < L.length → σ 93 (s : Int) = ((TMm σ0 P L s).length : Int) ∧ TLs σ 90 (30 * (s : Int)) (TMm σ0 P L s))
theorem TLs_frI {σ τ : Mem} {a o : Int} {l : List Tm} (h : TLs σ a o l) (hl : l.length ≤ 20) (hf : ∀ c j, a ≤ c → c ≤ a + 2 → o ≤ j → j < o + 30 → τ c j = σ c j) : TLs τ a o l := fun i e he => by
  have hi : i < l.length := by
    rcases Nat.lt_or_ge i l.length with q | q
    · exact q
    · rw [List.getElem?_eq_none q] at he; cases he
  rw [hf _ _ (by omega) (by omega) (by omega) (by omega), hf _ _ (by omega) (by omega) (by omega) (by omega), hf _ _ (by omega) (by omega) (by omega) (by omega)]
  exact h i e he
theorem l_slots {d : Nat} {n : Nat} {Q : Pst} {σ0 : Mem} {P : Nat} {y kp : Int} {l4 l5 l6 l7 : AV} (hG0 : GR σ0) (hP : PM σ0) (hPp : σ0 69 2 = (P : Int)) (hP5 : P ≤ 5) (hh : 0 ≤ σ0 69 12 ∧ σ0 69 12 ≤ 24) (hM : ∀ h, 0 ≤ h → h < σ0 69 12 → HM σ0 h) (h4 : (dlN (lvM σ0 y) (σ0 69 12).toNat).length ≤ 4) (hq : ∀ τ x3, GR τ → GS σ0 τ P (dlN (lvM σ0 y) (σ0 69 12).toNat) → EV (d + 4) 154 81 [(22, 69), (0, y), (0, kp), (0, x3), l4, l5, l6, l7] [] τ n Q) : ∀ (f j : Nat) (σ : Mem), GR σ → GS σ0 σ P (dlN (lvM σ0 y) j) → (j : Int) ≤ σ0 69 12 → σ0 69 12 - j < f → EV (d + 4) 154 16 [(22, 69), (0, y), (0, kp), (0, (j : Int)), l4, l5, l6, l7] [] σ n Q := by
  intro f
  induction f with
  | zero => intros; exfalso; omega
  | succ f ih =>
    intro j σ hG hS hj hk
    obtain ⟨fr, e28, e94, eT⟩ := hS
    have e12 : σ 69 12 = σ0 69 12 := fr 69 12 (by decide) (by decide)
    have e80 : σ 80 (j : Int) = σ0 80 (j : Int) := fr 80 _ (by omega) (by decide)
    have e86 : σ 86 (j : Int) = σ0 86 (j : Int) := fr 86 _ (by omega) (by decide)
    have skip : ¬ lvM σ0 y j = true → (j : Int) < σ0 69 12 → EV (d + 4) 154 16 [(22, 69), (0, y), (0, kp), (0, Zadd (j : Int) 1), l4, l5, l6, l7] [] σ n Q := fun hn hlt => by
      rw [Zadd_nat (by omega)]
      have e : dlN (lvM σ0 y) (j + 1) = dlN (lvM σ0 y) j := by rw [dlN_s, if_neg hn, List.append_nil]
      exact ih (j + 1) σ hG (by rw [e]; exact ⟨fr, e28, e94, eT⟩) (by omega) (by omega)
    refine r_154_16 (ht := fun c => ?_) (hf := fun c => ?_)
    · rw [show (σ0 69 12).toNat = j by omega] at hq
      exact hq σ _ hG ⟨fr, e28, e94, eT⟩
    · refine r_154_24 (hG := hG) (h0 := by omega) (ht := fun c2 => ?_) (hf := fun c2 => ?_)
      · refine r_154_75 (k := skip (fun z => ?_) (by omega))
        have := of_decide_eq_true z; omega
      · refine r_154_34 (hG := hG) (h0 := by omega) (ht := fun c3 => ?_) (hf := fun c3 => ?_)
        · have hlv : lvM σ0 y j = true := decide_eq_true (by omega)
          have e1 : dlN (lvM σ0 y) (j + 1) = dlN (lvM σ0 y) j ++ [(j : Int)] := by rw [dlN_s, if_pos hlv]
          have hl := dlN_mono (p := lvM σ0 y) (j := j + 1) (k := (σ0 69 12).toNat) (by omega)
          rw [e1, List.length_append] at hl
          simp only [List.length_cons, List.length_nil] at hl
          generalize hLj : dlN (lvM σ0 y) j = Lj at *
          refine r_154_46 (hG := hG) (h0 := by omega) (k := ?_)
          rw [e28]
          have fw : ∀ c i, ¬ c = 94 → wrM σ 94 (Lj.length : Int) (j : Int) c i = σ c i := fun c i q => wr_ne q
          have lo : ∀ c i, c < 90 → ¬ (c = 69 ∧ i = 28) → wrM σ 94 (Lj.length : Int) (j : Int) c i = σ0 c i := fun c i q1 q2 => by rw [fw c i (by omega)]; exact fr c i q2 (by omega)
          have hGw : GR (wrM σ 94 (Lj.length : Int) (j : Int)) := GR.wrk hG (by decide)
          have hMj := hM j (by omega) (by omega)
          refine m_teamsOf (d := d) (P := P) hGw (hP.fr2 lo) (by unfold HM; rw [lo 79 _ (by decide) (by omega), lo 84 _ (by decide) (by omega)]; exact hMj) (by omega) (by rw [lo 69 2 (by decide) (by decide)]; exact hPp) hP5 (fun τ hL => ?_)
          have eab : abM (wrM σ 94 (Lj.length : Int) (j : Int)) (j : Int) = abM σ0 (j : Int) := abM_fr2 lo
          rw [eab, lo 82 _ (by decide) (by omega), lo 84 _ (by decide) (by omega)] at hL
          dsimp only [Option.toList_none, List.nil_append]
          refine r_154_65 (k := ?_)
          have t28 : τ 69 28 = (Lj.length : Int) := by rw [hL.1 69 28 (by omega) (by omega), fw _ _ (by decide)]; exact e28
          rw [t28, Zadd_nat (by omega), Zadd_nat (by omega)]
          refine ih (j + 1) _ (GR.wr (hL.GR hGw) (by decide)) ?_ (by omega) (by omega)
          rw [e1]
          have lenA : ((Lj ++ [(j : Int)]).length : Int) = (Lj.length : Int) + 1 := by rw [List.length_append]; simp
          have tmO : ∀ s, s < Lj.length → TMm σ0 P (Lj ++ [(j : Int)]) s = TMm σ0 P Lj s := fun s hs => by unfold TMm; rw [getD_app hs]
          have tmN : TMm σ0 P (Lj ++ [(j : Int)]) Lj.length = tmL (abM σ0 (j : Int)) P (90 < σ0 82 (j : Int)) (σ0 84 (j : Int)) := by unfold TMm; rw [getD_last]
          refine ⟨fun c i q1 q2 => ?_, ?_, fun s hs => ?_, fun s hs => ?_⟩
          · rw [wr_j q1, hL.1 c i (by omega) (by omega), fw c i (by omega)]; exact fr c i q1 q2
          · rw [wr_same, lenA]; omega
          · rw [List.length_append] at hs
            rw [wr_ne (by decide), hL.1 94 _ (by omega) (by omega)]
            by_cases e : s = Lj.length
            · rw [e, getD_last, wr_if, if_pos (by omega)]
            · have hs2 : s < Lj.length := by simp at hs; omega
              rw [wr_nej (by omega), getD_app hs2]; exact e94 s hs2
          · rw [List.length_append] at hs
            by_cases e : s = Lj.length
            · rw [e, tmN]
              exact ⟨by rw [wr_ne (by decide)]; exact hL.2.1, TLs_frI hL.2.2 (tmL_b hP5) (fun c i a1 a2 _ _ => wr_ne (by omega))⟩
            · have hs2 : s < Lj.length := by simp at hs; omega
              rw [tmO s hs2]
              obtain ⟨t1, t2⟩ := eT s hs2
              refine ⟨?_, TLs_frI t2 (tmL_b hP5) (fun c i a1 a2 a3 a4 => ?_)⟩
              · rw [wr_ne (by decide), hL.1 93 _ (by omega) (by omega), fw _ _ (by decide)]; exact t1
              · rw [wr_ne (by omega), hL.1 c i (by omega) (by omega), fw _ _ (by omega)]
        · refine r_154_43 (k := skip (fun z => ?_) (by omega))
          have := of_decide_eq_true z; omega
theorem l_unch {d : Nat} {n : Nat} {Q : Pst} {σ1 : Mem} {y kp x3 x4 : Int} {l6 l7 : AV} (hG1 : GR σ1) (hq : ∀ τ x5, (∀ c j, ¬ c = 95 → τ c j = σ1 c j) → (∀ s : Int, 0 ≤ s → s < 4 → τ 95 s = -1) → EV d 154 114 [(22, 69), (0, y), (0, kp), (0, x3), (0, x4), (0, x5), l6, l7] [] τ n Q) : ∀ (f j : Nat) (σ : Mem), j ≤ 4 → 4 - j < f → (∀ c i, ¬ c = 95 → σ c i = σ1 c i) → (∀ s : Int, 0 ≤ s → s < (j : Int) → σ 95 s = -1) → EV d 154 94 [(22, 69), (0, y), (0, kp), (0, x3), (0, x4), (0, (j : Int)), l6, l7] [] σ n Q := by
  intro f
  induction f with
  | zero => intros; exfalso; omega
  | succ f ih =>
    intro j σ hj hk hf hs
    have hG : GR σ := GR.fr (fun c _ => decide (c = 95)) hG1 (fun c j q => hf c j (by simpa using q)) (by decide)
    refine r_154_94 (ht := fun c => ?_) (hf := fun c => ?_)
    · exact hq σ _ hf (fun s h0 h1 => hs s h0 (by omega))
    · refine r_154_100 (hG := hG) (h0 := by omega) (k := ?_)
      rw [Zadd_nat (by omega)]
      refine ih (j + 1) _ (by omega) (by omega) (fun c i q => by rw [wr_ne q]; exact hf c i q) (fun s h0 h1 => ?_)
      by_cases e : s = (j : Int)
      · rw [e, wr_same]
      · rw [wr_nej e]; exact hs s h0 (by omega)
/-- the seats are written -/
theorem l_seatM {d : Nat} {n : Nat} {Q : Pst} {σ1 : Mem} {L : List Int} {TM : Nat → List Tm} {B : Bst} {y kp x3 x4 : Int} (hG1 : GR σ1) (h4 : L.length ≤ 4) (h28 : σ1 69 28 = (L.length : Int)) (h94 : ∀ s : Nat, s < L.length → σ1 94 (s : Int) = L.getD s 0) (hd : dst L) (hH : ∀ h ∈ L, 0 ≤ h ∧ h < 24) (hT : ∀ s : Nat, s < L.length → σ1 93 (s : Int) = ((TM s).length : Int) ∧ TLs σ1 90 (30 * (s : Int)) (TM s)) (hl20 : ∀ s, (TM s).length ≤ 20) (h96 : ∀ s : Nat, s < L.length → σ1 96 (s : Int) = B.2.2.2.getD s 0) (hb : ∀ s, 0 ≤ B.2.2.2.getD s 0) (hb2 : ∀ s : Nat, s < L.length → B.2.2.2.getD s 0 ≤ 20) (hq : ∀ τ x5 l6 l7, (∀ c j, ¬ ((87 ≤ c ∧ c ≤ 89) ∧ j ∈ L) → τ c j = σ1 c j) → (∀ s : Nat, s < L.length → τ 87 (L.getD s 0) = (plT B TM s).1 ∧ τ 88 (L.getD s 0) = (plT B TM s).2.1 ∧ τ 89 (L.getD s 0) = (plT B TM s).2.2) → EV d 154 391 [(22, 69), (0, y), (0, kp), (0, x3), (0, x4), (0, x5), l6, l7] [] τ n Q) : ∀ (f i : Nat) (l6 l7 : AV) (σ : Mem), i ≤ L.length → L.length - i < f → (∀ c j, ¬ ((87 ≤ c ∧ c ≤ 89) ∧ j ∈ L) → σ c j = σ1 c j) → (∀ s : Nat, s < i → σ 87 (L.getD s 0) = (plT B TM s).1 ∧ σ 88 (L.getD s 0) = (plT B TM s).2.1 ∧ σ 89 (L.getD s 0) = (plT B TM s).2.2) → EV d 154 253 [(22, 69), (0, y), (0, kp), (0, x3), (0, x4), (0, (i : Int)), l6, l7] [] σ n Q := by
  intro f
  induction f with
  | zero => intros; exfalso; omega
  | succ f ih =>
    intro i l6 l7 σ hi hk hf hs
    have hG : GR σ := GR.fr (fun c _ => decide (87 ≤ c) && decide (c ≤ 89)) hG1 (fun c j q => hf c j (fun z => by simp [z.1.1, z.1.2] at q)) (by decide)
    have e28 : σ 69 28 = (L.length : Int) := by rw [hf 69 28 (by omega)]; exact h28
    refine r_154_253 (ht := fun c => ?_) (hf := fun c => ?_)
    · exact hq σ _ _ _ hf (fun s h => hs s (by omega))
    · have hil : i < L.length := by omega
      have hx := List.getElem?_eq_getElem hil
      have ed : L.getD i 0 = L[i] := by rw [List.getD_eq_getElem?_getD, hx]; rfl
      have hmem := List.getElem_mem hil
      have hh := hH _ hmem
      have e94 : σ 94 (i : Int) = L[i] := by rw [hf 94 _ (by omega), h94 i hil, ed]
      have e96 : σ 96 (i : Int) = B.2.2.2.getD i 0 := by rw [hf 96 _ (by omega)]; exact h96 i hil
      obtain ⟨t1, t2⟩ := hT i hil
      have e93 : σ 93 (i : Int) = ((TM i).length : Int) := by rw [hf 93 _ (by omega)]; exact t1
      have hl := hl20 i
      have hb0 := hb i
      have hb1 := hb2 i hil
      have z : Zadd (Zmul 30 (i : Int)) (σ 96 (i : Int)) = 30 * (i : Int) + (((B.2.2.2.getD i 0).toNat : Nat) : Int) := by rw [e96]; simp (disch := omega) only [Zadd_eq, Zmul_eq]; omega
      have zb : 0 ≤ 30 * (i : Int) + (((B.2.2.2.getD i 0).toNat : Nat) : Int) ∧ 30 * (i : Int) + (((B.2.2.2.getD i 0).toNat : Nat) : Int) < 150 := by omega
      -- the three writes
      have fin : ∀ (x6 x7 v1 v2 v3 : Int), (v1, v2, v3) = plT B TM i → EV d 154 253 [(22, 69), (0, y), (0, kp), (0, x3), (0, x4), (0, Zadd (i : Int) 1), (0, x6), (0, x7)] [] (wrM (wrM (wrM σ 87 L[i] v1) 88 L[i] v2) 89 L[i] v3) n Q := fun x6 x7 v1 v2 v3 ev => by
        rw [Zadd_nat (by omega)]
        refine ih (i + 1) _ _ _ (by omega) (by omega) (fun c j q => ?_) (fun s h => ?_)
        · have n1 : ¬ (c = 89 ∧ j = L[i]) := fun z => q ⟨by omega, by rw [z.2]; exact hmem⟩
          have n2 : ¬ (c = 88 ∧ j = L[i]) := fun z => q ⟨by omega, by rw [z.2]; exact hmem⟩
          have n3 : ¬ (c = 87 ∧ j = L[i]) := fun z => q ⟨by omega, by rw [z.2]; exact hmem⟩
          rw [wr_j n1, wr_j n2, wr_j n3]; exact hf c j q
        · by_cases e : s = i
          · subst e
            rw [ed, ← ev]
            exact ⟨by rw [wr_ne (by decide), wr_ne (by decide), wr_same], by rw [wr_ne (by decide), wr_same], wr_same⟩
          · have hsl : s < L.length := by omega
            have hxs := List.getElem?_eq_getElem hsl
            have eds : L.getD s 0 = L[s] := by rw [List.getD_eq_getElem?_getD, hxs]; rfl
            have hne : ¬ L[s] = L[i] := fun z => e (hd s i L[s] hxs (by rw [hx, z]))
            have q := hs s (by omega)
            rw [eds] at q ⊢
            refine ⟨?_, ?_, ?_⟩
            · rw [wr_ne (by decide), wr_ne (by decide), wr_nej hne]; exact q.1
            · rw [wr_ne (by decide), wr_nej hne, wr_ne (by decide)]; exact q.2.1
            · rw [wr_nej hne, wr_ne (by decide), wr_ne (by decide)]; exact q.2.2
      have g29 : ∀ v, wrM σ 87 L[i] v 69 29 = 94 := fun v => by rw [wr_ne (by decide)]; exact g_69_29 hG
      have g22 : ∀ v, wrM σ 87 L[i] v 69 22 = 88 := fun v => by rw [wr_ne (by decide)]; exact g_69_22 hG
      have g94 : ∀ v, wrM σ 87 L[i] v 94 (i : Int) = L[i] := fun v => by rw [wr_ne (by decide)]; exact e94
      have h29 : ∀ v w, wrM (wrM σ 87 L[i] v) 88 L[i] w 69 29 = 94 := fun v w => by rw [wr_ne (by decide)]; exact g29 v
      have h23 : ∀ v w, wrM (wrM σ 87 L[i] v) 88 L[i] w 69 23 = 89 := fun v w => by rw [wr_ne (by decide), wr_ne (by decide)]; exact g_69_23 hG
      have h94' : ∀ v w, wrM (wrM σ 87 L[i] v) 88 L[i] w 94 (i : Int) = L[i] := fun v w => by rw [wr_ne (by decide)]; exact g94 v
      have l94 : lnF 94 = 4 := by decide
      have l87 : lnF 87 = 24 := by decide
      have l88 : lnF 88 = 24 := by decide
      have l89 : lnF 89 = 24 := by decide
      refine r_154_262 (hG := hG) (h0 := by omega) (h1 := by omega) (ht := fun c2 => ?_) (hf := fun c2 => ?_)
      · rw [e93, e96] at c2
        have ev : ((-1, -1, -1) : Tm) = plT B TM i := by unfold plT; rw [List.getD_eq_getElem?_getD, List.getElem?_eq_none (by omega)]; rfl
        refine r_154_283 (hG := hG) (h0 := by omega) (ht := fun _ => ?_) (hf := fun c => absurd rfl c)
        rw [e94]
        refine r_154_327 (h0 := by decide) (h1 := by rw [l87]; omega) (h2 := by rw [g29]; decide) (h3 := by rw [g29, l94]; omega) (ht := fun _ => ?_) (hf := fun c => absurd rfl c)
        rw [g29, g94, g22]
        refine r_154_355 (h0 := by decide) (h1 := by rw [l88]; omega) (h2 := by rw [h29]; decide) (h3 := by rw [h29, l94]; omega) (ht := fun _ => ?_) (hf := fun c => absurd rfl c)
        rw [h29, h94', h23]
        refine r_154_383 (h0 := by decide) (h1 := by rw [l89]; omega) (k := ?_)
        exact fin _ _ (-1) (-1) (-1) ev
      · rw [e93, e96] at c2
        have hlt : (B.2.2.2.getD i 0).toNat < (TM i).length := by omega
        have hxt := List.getElem?_eq_getElem hlt
        have ev : plT B TM i = (TM i)[(B.2.2.2.getD i 0).toNat] := by unfold plT; rw [List.getD_eq_getElem?_getD, hxt]; rfl
        obtain ⟨p1, p2, p3⟩ := t2 _ _ hxt
        rw [← hf 90 _ (by omega), ← ev] at p1
        rw [← hf (90 + 1) _ (by omega), ← ev] at p2
        rw [← hf (90 + 2) _ (by omega), ← ev] at p3
        have p2 : σ 91 (30 * (i : Int) + (((B.2.2.2.getD i 0).toNat : Nat) : Int)) = (plT B TM i).2.1 := p2
        have p3 : σ 92 (30 * (i : Int) + (((B.2.2.2.getD i 0).toNat : Nat) : Int)) = (plT B TM i).2.2 := p3
        refine r_154_279 (hG := hG) (h0 := by omega) (ht := fun c => absurd c (by decide)) (hf := fun _ => ?_)
        rw [e94, z]
        refine r_154_317 (hG := hG) (h0 := zb) (h1 := by decide) (h2 := by rw [l87]; omega) (h3 := by rw [g29]; decide) (h4 := by rw [g29, l94]; omega) (ht := fun c => absurd c (by decide)) (hf := fun _ => ?_)
        rw [g29, g94, g22, p1]
        have hG2 : GR (wrM σ 87 L[i] (plT B TM i).1) := GR.wrk hG (by decide)
        refine r_154_345 (hG := hG2) (h0 := zb) (h1 := by decide) (h2 := by rw [l88]; omega) (h3 := by rw [h29]; decide) (h4 := by rw [h29, l94]; omega) (ht := fun c => absurd c (by decide)) (hf := fun _ => ?_)
        rw [h29, h94', h23, wr_ne (by decide : ¬ (91 : Int) = 87), p2]
        have hG3 : GR (wrM (wrM σ 87 L[i] (plT B TM i).1) 88 L[i] (plT B TM i).2.1) := GR.wrk hG2 (by decide)
        refine r_154_373 (hG := hG3) (h0 := zb) (h1 := by decide) (h2 := by rw [l89]; omega) (k := ?_)
        rw [wr_ne (by decide : ¬ (92 : Int) = 88), wr_ne (by decide : ¬ (92 : Int) = 87), p3]
        exact fin _ _ _ _ _ rfl
/-- what a plan leaves, by the reference -/
def PLM (σ τ : Mem) (L : List Int) (B : Bst) (TM : Nat → List Tm) : Prop := (∀ c j, ¬ (c = 69 ∧ (j = 28 ∨ (33 ≤ j ∧ j ≤ 38))) → ¬ (90 ≤ c ∧ c ≤ 97) → ¬ ((87 ≤ c ∧ c ≤ 89) ∧ j ∈ L) → τ c j = σ c j) ∧ (∀ s : Nat, s < L.length → τ 87 (L.getD s 0) = (plT B TM s).1 ∧ τ 88 (L.getD s 0) = (plT B TM s).2.1 ∧ τ 89 (L.getD s 0) = (plT B TM s).2.2) ∧ τ 69 37 = 1 ∧ τ 69 38 = (L.length : Int) ∧ τ 69 34 = B.1 ∧ τ 69 35 = B.2.1 ∧ τ 69 36 = B.2.2.1
theorem wgh_u {keep : Bool} {C : Cst} {B : Bst} {c : List Int} (h1 : ∀ s, B.2.2.2.getD s 0 ≤ 20) (h2 : ∀ s, c.getD s 0 ≤ 20) : ∀ s, (wgh keep C B c).2.2.2.getD s 0 ≤ 20 := by
  intro s
  unfold wgh
  split
  · exact h2 s
  · exact h1 s
theorem sF_u {keep : Bool} {C : Cst} {N : Nat → Nat} (hN : ∀ s, N s ≤ 20) : ∀ (r : Nat) (pf : List Int) (B : Bst), (∀ s, B.2.2.2.getD s 0 ≤ 20) → (∀ s, pf.getD s 0 ≤ 20) → ∀ s, (sF keep C N r pf B).2.2.2.getD s 0 ≤ 20 := by
  intro r
  induction r with
  | zero => intro pf B h1 h2; exact wgh_u h1 h2
  | succ r ih =>
    intro pf B h1 h2
    rw [sF_s]
    have key : ∀ n, n ≤ N pf.length + 1 → ∀ s, (itN (fun i B => sF keep C N r (pf ++ [(i : Int)]) B) n B).2.2.2.getD s 0 ≤ 20 := by
      intro n
      induction n with
      | zero => intro _; exact h1
      | succ n ih2 =>
        intro hn
        rw [itN_s]
        refine ih _ _ (ih2 (by omega)) (fun s => ?_)
        have := hN pf.length
        rcases Nat.lt_trichotomy s pf.length with q | q | q
        · rw [getD_app q]; exact h2 s
        · rw [q, getD_last]; omega
        · rw [List.getD_eq_getElem?_getD, List.getElem?_eq_none (by rw [List.length_append]; simp; omega)]; show (0 : Int) ≤ 20; omega
    exact key _ (Nat.le_refl _)
set_option maxHeartbeats 4000000 in
theorem m_plan {d : Nat} {n : Nat} {Q : Pst} {σ : Mem} {P : Nat} {y kp : Int} (hG : GR σ) (hP : PM σ) (hPp : σ 69 2 = (P : Int)) (hP5 : P ≤ 5) (hkp : kp = 0 ∨ kp = 1) (hh : 0 ≤ σ 69 12 ∧ σ 69 12 ≤ 24) (hM : ∀ h, 0 ≤ h → h < σ 69 12 → HM σ h) (hH : ∀ h, 0 ≤ h → h < σ 69 12 → HR σ h) (hho : ∀ q, 0 ≤ q → q < (P : Int) → 0 ≤ σ 72 q ∧ σ 72 q ≤ 5) (hW : WM σ) (hr : 0 ≤ σ 69 11 ∧ σ 69 11 ≤ 120) (h4 : (dlN (lvM σ y) (σ 69 12).toNat).length ≤ 4) (hv : (0 ≤ y ∧ y ≤ 999) → ∀ τ, GR τ → PLM σ τ (dlN (lvM σ y) (σ 69 12).toNat) (plB (decide (kp = 1)) (cstM σ (dlN (lvM σ y) (σ 69 12).toNat) (TMm σ P (dlN (lvM σ y) (σ 69 12).toNat)) P) (TMm σ P (dlN (lvM σ y) (σ 69 12).toNat)) (dlN (lvM σ y) (σ 69 12).toNat).length) (TMm σ P (dlN (lvM σ y) (σ 69 12).toNat)) → Q (some (0, (plB (decide (kp = 1)) (cstM σ (dlN (lvM σ y) (σ 69 12).toNat) (TMm σ P (dlN (lvM σ y) (σ 69 12).toNat)) P) (TMm σ P (dlN (lvM σ y) (σ 69 12).toNat)) (dlN (lvM σ y) (σ 69 12).toNat).length).1)) τ n) (hn : ¬ (0 ≤ y ∧ y ≤ 999) → Q (some (0, -1)) σ n) : EVM (d + 4) 154 [(22, 69), (0, y), (0, kp)] σ n Q := by
  show EV (d + 4) 154 0 [(22, 69), (0, y), (0, kp), (9, 0), (9, 0), (9, 0), (9, 0), (9, 0)] [] σ n Q
  refine r_154_0 (k := ?_)
  refine m_isDay (fun c => ?_) (fun c => ?_)
  rotate_left
  · dsimp only [Option.toList_some, List.cons_append, List.nil_append]
    refine r_154_4 (ht := fun c => absurd rfl c) (hf := fun _ => ?_)
    exact r_154_7 (k := hn c)
  dsimp only [Option.toList_some, List.cons_append, List.nil_append]
  refine r_154_4 (ht := fun _ => ?_) (hf := fun c => absurd c (by decide))
  refine r_154_9 (k := ?_)
  refine l_slots (σ0 := σ) (P := P) hG hP hPp hP5 hh hM h4 (fun σ1 x3 hG1 S1 => ?_) ((σ 69 12).toNat + 1) 0 _ (GR.wr hG (by decide)) ⟨fun c j q1 q2 => by rw [wr_j q1], by rw [wr_same]; rfl, fun s hs => by simp [dlN] at hs, fun s hs => by simp [dlN] at hs⟩ (by omega) (by omega)
  have hLm : ∀ h ∈ dlN (lvM σ y) (σ 69 12).toNat, 0 ≤ h ∧ h < σ 69 12 := fun h hh => by have := dlN_b _ h hh; omega
  have hdst : dst (dlN (lvM σ y) (σ 69 12).toNat) := dlN_dst _
  generalize hLd : dlN (lvM σ y) (σ 69 12).toNat = L at *
  obtain ⟨fr, e28, e94, eT⟩ := S1
  refine r_154_81 (k := ?_)
  refine l_unch (d := d + 4) (σ1 := wrM σ1 69 34 5) (GR.wr hG1 (by decide)) (fun σ2 x5 f1 f2 => ?_) 5 0 _ (by omega) (by omega) (fun _ _ _ => rfl) (fun s h0 h1 => by omega)
  have fr2 : ∀ c j, ¬ (c = 69 ∧ (j = 28 ∨ j = 34)) → ¬ (90 ≤ c ∧ c ≤ 95) → σ2 c j = σ c j := fun c j q1 q2 => by rw [f1 c j (by omega), wr_j (by omega)]; exact fr c j (by omega) (by omega)
  have hG2 : GR σ2 := GR.fr (fun c _ => decide (c = 95)) (GR.wr hG1 (by decide) : GR (wrM σ1 69 34 5)) (fun c j q => f1 c j (by simpa using q)) (by decide)
  have t28 : σ2 69 28 = (L.length : Int) := by rw [f1 69 28 (by decide), wr_nej (by decide)]; exact e28
  have t34 : σ2 69 34 = 5 := by rw [f1 69 34 (by decide), wr_same]
  have eH2 : ∀ h, HR σ2 h ↔ HR σ h := fun h => by unfold HR; rw [fr2 83 _ (by omega) (by decide), fr2 82 _ (by omega) (by decide), fr2 81 _ (by omega) (by decide)]
  have t94 : ∀ s : Nat, s < L.length → σ2 94 (s : Int) = L.getD s 0 := fun s hs => by rw [f1 94 _ (by decide), wr_ne (by decide)]; exact e94 s hs
  have tT : ∀ s : Nat, s < L.length → σ2 93 (s : Int) = ((TMm σ P L s).length : Int) ∧ TLs σ2 90 (30 * (s : Int)) (TMm σ P L s) := fun s hs => by
    obtain ⟨a1, a2⟩ := eT s hs
    exact ⟨by rw [f1 93 _ (by decide), wr_ne (by decide)]; exact a1, TLs_fr a2 (fun c j b1 b2 => by rw [f1 c j (by omega), wr_ne (by omega)])⟩
  have hl20 : ∀ s, (TMm σ P L s).length ≤ 20 := fun s => tmL_b hP5
  have hC : CM σ2 L (TMm σ P L) P := ⟨hG2, h4, t28, t94, fun h hh => (eH2 h).mpr (hH h (hLm h hh).1 (hLm h hh).2), hdst, tT, hl20, fun s t ht => tmL_v t ht, ⟨by rw [fr2 69 2 (by decide) (by decide)]; exact hPp, hP5⟩, fun q a b => by rw [fr2 72 q (by omega) (by decide)]; exact hho q a b, fun j a b => by rw [fr2 70 j (by omega) (by decide)]; exact hW j a b, by rw [fr2 69 11 (by decide) (by decide)]; exact hr⟩
  -- the worth, by the memory at the start
  have eC : cstM σ2 L (TMm σ P L) P = cstM σ L (TMm σ P L) P := by
    have e81 : σ2 81 = σ 81 := funext fun j => fr2 81 j (by omega) (by decide)
    have e82 : σ2 82 = σ 82 := funext fun j => fr2 82 j (by omega) (by decide)
    have e83 : σ2 83 = σ 83 := funext fun j => fr2 83 j (by omega) (by decide)
    have e70 : σ2 70 = σ 70 := funext fun j => fr2 70 j (by omega) (by decide)
    have e72 : σ2 72 = σ 72 := funext fun j => fr2 72 j (by omega) (by decide)
    have e87 : σ2 87 = σ 87 := funext fun j => fr2 87 j (by omega) (by decide)
    have e88 : σ2 88 = σ 88 := funext fun j => fr2 88 j (by omega) (by decide)
    have ewy : wyM σ2 = wyM σ := by funext a b; unfold wyM; rw [e70]
    have eal : alM σ2 = alM σ := by funext a b; unfold alM; rw [ewy, e81, e82, e83, fr2 69 11 (by decide) (by decide)]
    unfold cstM
    rw [e81, eal, ewy, e83, e72, e87, e88]
  have B0w : (L.length : Int) < 5 := by omega
  have pe := (plB_eq (keep := decide (kp = 1)) (P := P) (TM := TMm σ P L) (L := L) (bg := σ2 81) (al := alM σ2) (tr := fun p l => if l = [] then 0 else trT (wyM σ2) (σ2 83) (σ2 72 p) l) (s1 := fun s => σ2 87 (L.getD s 0)) (s2 := fun s => σ2 88 (L.getD s 0)) (B := (5, σ2 69 35, σ2 69 36, (List.range L.length).map (fun (s : Nat) => σ2 96 (s : Int)))) B0w).1
  have pe : sF (decide (kp = 1)) (cstM σ2 L (TMm σ P L) P) (fun s => (TMm σ P L s).length) L.length [] (5, σ2 69 35, σ2 69 36, (List.range L.length).map (fun (s : Nat) => σ2 96 (s : Int))) = plB (decide (kp = 1)) (cstM σ2 L (TMm σ P L) P) (TMm σ P L) L.length := pe
  have X0 : QX σ2 σ2 L.length [] (-1) (5, σ2 69 35, σ2 69 36, (List.range L.length).map (fun (s : Nat) => σ2 96 (s : Int))) := ⟨fun _ _ _ _ => rfl, ⟨t34, rfl, rfl⟩, fun s hs => by simp at hs, f2 0 (by omega) (by omega), fun s h1 h2 => f2 s (by simp at h1; omega) h2, fun s hs => by
    show σ2 96 (s : Int) = ((List.range L.length).map (fun (s : Nat) => σ2 96 (s : Int))).getD s 0
    rw [List.getD_eq_getElem?_getD, List.getElem?_map, List.getElem?_range hs]; rfl⟩
  have hkk : ¬ kp = 0 ↔ decide (kp = 1) = true := by rw [decide_eq_true_iff]; omega
  -- the end
  have fin : ∀ τ x3 x4 x5 l6 l7, QX σ2 τ L.length [] (-1) (plB (decide (kp = 1)) (cstM σ2 L (TMm σ P L) P) (TMm σ P L) L.length) → EV (d + 4) 154 250 [(22, 69), (0, y), (0, kp), (0, x3), (0, x4), (0, x5), l6, l7] [] τ n Q := fun τ x3 x4 x5 l6 l7 hX => by
    rw [eC] at hX
    refine r_154_250 (k := ?_)
    have hGt := hX.GR hG2
    refine l_seatM (d := d + 4) (TM := TMm σ P L) hGt h4 (by rw [hX.1 69 28 (by decide) (by decide)]; exact t28) (fun s hs => by rw [hX.1 94 _ (by decide) (by omega)]; exact t94 s hs) hdst (fun h hh2 => by have := hLm h hh2; omega) (fun s hs => ⟨by rw [hX.1 93 _ (by decide) (by omega)]; exact (tT s hs).1, TLs_fr (tT s hs).2 (fun c j b1 b2 => hX.1 c j (by omega) (by omega))⟩) hl20 hX.2.2.2.2.2 plB_n (fun s hs => sF_u (fun s => hl20 s) L.length [] _ (fun s => by show ([] : List Int).getD s 0 ≤ 20; simp) (fun s => by simp) s) (fun τ2 x5 l6 l7 g1 g2 => ?_) (L.length + 1) 0 _ _ τ (by omega) (by omega) (fun _ _ _ => rfl) (fun s hs => by omega)
    refine r_154_391 (k := ?_)
    have r28 : τ2 69 28 = (L.length : Int) := by rw [g1 69 28 (by omega), hX.1 69 28 (by decide) (by decide)]; exact t28
    have r34 : τ2 69 34 = (plB (decide (kp = 1)) (cstM σ L (TMm σ P L) P) (TMm σ P L) L.length).1 := by rw [g1 69 34 (by omega)]; exact hX.2.1.1
    rw [r28, r34]
    have hGt2 : GR τ2 := GR.fr (fun c _ => decide (87 ≤ c) && decide (c ≤ 89)) hGt (fun c j q => g1 c j (fun z => by simp [z.1.1, z.1.2] at q)) (by decide)
    refine hv c _ (GR.wr (GR.wr hGt2 (by decide)) (by decide)) ⟨fun c j q1 q2 q3 => ?_, fun s hs => ?_, ?_, ?_, ?_, ?_, ?_⟩
    · rw [wr_j (by omega), wr_j (by omega), g1 c j q3, hX.1 c j (by omega) (by omega)]; exact fr2 c j (by omega) (by omega)
    · rw [wr_ne (by decide), wr_ne (by decide), wr_ne (by decide), wr_ne (by decide), wr_ne (by decide), wr_ne (by decide)]; exact g2 s hs
    · rw [wr_nej (by decide), wr_same]
    · rw [wr_same]
    · rw [wr_nej (by decide), wr_nej (by decide)]; exact r34
    · rw [wr_nej (by decide), wr_nej (by decide), g1 69 35 (by omega)]; exact hX.2.1.2.1
    · rw [wr_nej (by decide), wr_nej (by decide), g1 69 36 (by omega)]; exact hX.2.1.2.2
  refine r_154_114 (ht := fun c2 => ?_) (hf := fun c2 => ?_)
  · have hm0 : 0 < L.length := by omega
    have q := l_lev (d := d) (n := n) (Q := Q) (keep := decide (kp = 1)) (kp := kp) (y := y) (x5 := x5) (l6 := (9, 0)) (l7 := (9, 0)) hC hkk (L.length - 1) [] (5, σ2 69 35, σ2 69 36, (List.range L.length).map (fun (s : Nat) => σ2 96 (s : Int))) (by simp; omega) (fun s hs => by simp at hs) (fun τ hτ => ?_) ((TMm σ P L 0).length + 2) 0 σ2 (by omega) (by simp) X0
    · rw [if_neg (by omega)] at q
      exact q
    · rw [show L.length - 1 + 1 = L.length by omega, pe] at hτ
      have e28τ : τ 69 28 = (L.length : Int) := by rw [hτ.1 69 28 (by decide) (by decide)]; exact t28
      refine r_154_127 (ht := fun c3 => by exfalso; omega) (hf := fun _ => ?_)
      refine r_154_134 (ht := fun _ => ?_) (hf := fun c3 => by exfalso; simp at c3)
      exact fin τ _ _ _ _ _ hτ
  · have hm0 : L.length = 0 := by omega
    have eL : L = [] := List.eq_nil_of_length_eq_zero hm0
    refine r_154_121 (k := ?_)
    refine m_weighs (d := d + 1) (keep := decide (kp = 1)) (pf := []) hC X0 (fun s hs => by simp at hs) (by rw [hm0]; rfl) hkk rfl (by show (cstM σ2 L (TMm σ P L) P).2.1 [] ≤ 5; have := (cst_wo (P := P) (TM := TMm σ P L) (L := L) (bg := σ2 81) (al := alM σ2) (tr := fun p l => if l = [] then 0 else trT (wyM σ2) (σ2 83) (σ2 72 p) l) (s1 := fun s => σ2 87 (L.getD s 0)) (s2 := fun s => σ2 88 (L.getD s 0)) []).2; exact Int.le_trans this (by simp)) (fun τ hτ => ?_)
    dsimp only [Option.toList_none, List.nil_append]
    have e0 : wgh (decide (kp = 1)) (cstM σ2 L (TMm σ P L) P) (5, σ2 69 35, σ2 69 36, (List.range L.length).map (fun (s : Nat) => σ2 96 (s : Int))) [] = plB (decide (kp = 1)) (cstM σ2 L (TMm σ P L) P) (TMm σ P L) L.length := by
      rw [← pe]
      conv => rhs; rw [hm0]
      rw [sF_0, hm0]
    rw [e0] at hτ
    have e28τ : τ 69 28 = (L.length : Int) := by rw [hτ.1 69 28 (by decide) (by decide)]; exact t28
    refine r_154_127 (ht := fun _ => ?_) (hf := fun c3 => by exfalso; omega)
    exact fin τ _ _ _ _ _ hτ
