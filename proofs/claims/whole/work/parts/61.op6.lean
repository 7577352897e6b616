/-! plan -/
set_option maxHeartbeats 2000000 in
theorem sF_congr {keep : Bool} {C C' : Cst} {N N' : Nat → Nat} {m : Nat} (hC : ∀ c : List Int, c.length = m → C.1 c = C'.1 c ∧ C.2.1 c = C'.2.1 c ∧ C.2.2.1 c = C'.2.2.1 c ∧ C.2.2.2 c = C'.2.2.2 c) (hN : ∀ s, s < m → N s = N' s) : ∀ (r : Nat) (pf : List Int) (B : Bst), pf.length + r = m → sF keep C N r pf B = sF keep C' N' r pf B := by
  intro r
  induction r with
  | zero =>
    intro pf B h
    obtain ⟨h1, h2, h3, h4⟩ := hC pf (by omega)
    rw [sF_0, sF_0]
    unfold wgh
    rw [h1, h2, h3, h4]
  | succ r ih =>
    intro pf B h
    rw [sF_s, sF_s, hN pf.length (by omega)]
    have e : (fun (i : Nat) (B : Bst) => sF keep C N r (pf ++ [(i : Int)]) B) = fun (i : Nat) (B : Bst) => sF keep C' N' r (pf ++ [(i : Int)]) B := by
      funext i B
      exact ih _ _ (by rw [List.length_append]; simp; omega)
    rw [e]
theorem ix_lt {x : Int} {L : List Int} (h : x ∈ L) : ix L x < L.length := by
  have := ix_at L h
  rcases Nat.lt_or_ge (ix L x) L.length with q | q
  · exact q
  · rw [List.getElem?_eq_none q] at this; cases this
theorem liP_eq {TM TM' : Nat → List Tm} {L c : List Int} {bg bg' : Int → Int} {p : Int} (hT : ∀ s, s < L.length → TM s = TM' s) (hb : ∀ h ∈ L, bg h = bg' h) : liP TM L bg c p = liP TM' L bg' c p := by
  unfold liP
  have e : L.filter (sH TM L c p) = L.filter (sH TM' L c p) := List.filter_congr (fun x hx => by unfold sH tmA; rw [hT _ (ix_lt hx)])
  rw [e]
  exact isR_congr _ (fun h hh => hb h (List.mem_filter.mp hh).1)
theorem liP_mem {TM : Nat → List Tm} {L c : List Int} {bg : Int → Int} {p : Int} : ∀ h ∈ liP TM L bg c p, h ∈ L := fun h hh => (List.mem_filter.mp (isR_mem.mp hh)).1
theorem liP_nil {TM : Nat → List Tm} {L c : List Int} {bg : Int → Int} {P : Nat} {p : Int} (hv : ∀ s, ∀ t ∈ TM s, tmV P t) (p0 : (P : Int) ≤ p) : liP TM L bg c p = [] := by
  unfold liP
  have e : L.filter (sH TM L c p) = [] := List.filter_eq_nil_iff.mpr (fun x hx => by
    unfold sH sitA tmA
    rw [decide_eq_true_iff]
    rcases getD_v (hv (ix L x)) (c.getD (ix L x) 0).toNat with q | q
    · unfold tmV at q; omega
    · rw [q]; show ¬ ((-1 : Int) = p ∨ (-1 : Int) = p); omega)
  rw [e]; rfl
theorem allN_ext {f g : Nat → Bool} {P Q : Nat} (h : P ≤ Q) (h1 : ∀ k, k < P → f k = g k) (h2 : ∀ k, P ≤ k → k < Q → f k = true) : allN f Q = allN g P := by
  rw [Bool.eq_iff_iff, allN_iff, allN_iff]
  constructor
  · intro q i hi; rw [← h1 i hi]; exact q i (by omega)
  · intro q i hi
    rcases Nat.lt_or_ge i P with z | z
    · rw [h1 i z]; exact q i z
    · exact h2 i z hi
theorem sumN_ext {f g : Int → Int} {P Q : Nat} (h : P ≤ Q) (h1 : ∀ k : Nat, k < P → f k = g k) (h2 : ∀ k : Nat, P ≤ k → k < Q → f k = 0) : sumN f Q = sumN g P := by
  have e1 : sumN f P = sumN g P := sumN_congr h1
  have e2 : ∀ k, P + k ≤ Q → sumN f (P + k) = sumN g P := by
    intro k
    induction k with
    | zero => intro _; exact e1
    | succ k ih => intro hk; rw [← Nat.add_assoc, sumN_s, ih (by omega), h2 (P + k) (by omega) (by omega)]; omega
  have := e2 (Q - P) (by omega)
  rwa [show P + (Q - P) = Q by omega] at this
theorem getD_mem {L : List Int} {s : Nat} (h : s < L.length) : L.getD s 0 ∈ L := by
  rw [List.getD_eq_getElem?_getD, List.getElem?_eq_getElem h]
  exact List.getElem_mem h
theorem cs_eq {a b : Mem} {n P : Nat} (hW : IW a b) (hP : IP a b) (hH : IH a b n) (hPp : a 3 2 = (P : Int)) {L : List Int} (hL : ∀ h ∈ L, 0 ≤ h ∧ h < a 14 1) {TM TM' : Nat → List Tm} (hT : ∀ s, s < L.length → TM s = TM' s) (hv : ∀ s, ∀ t ∈ TM' s, tmV P t) (c : List Int) (hc : c.length = L.length) : (cstC a a L TM).1 c = (cstM b L TM' P).1 c ∧ (cstC a a L TM).2.1 c = (cstM b L TM' P).2.1 c ∧ (cstC a a L TM).2.2.1 c = (cstM b L TM' P).2.2.1 c ∧ (cstC a a L TM).2.2.2 c = (cstM b L TM' P).2.2.2 c := by
  have p5 := hP.2.1.2
  have hE : ∀ h ∈ L, HE a b h := fun h hh => (hH.2.2.2.1 h (hL h hh).1 (hL h hh).2).2
  have el : ∀ p : Int, liP TM L (fun h => a (114 + h) 6) c p = liP TM' L (b 81) c p := fun p => liP_eq hT (fun h hh => (hE h hh).1.2.2.1.symm)
  refine ⟨?_, ?_, ?_, ?_⟩
  · show allN (fun p => hoR (alC a) (liP TM L (fun h => a (114 + h) 6) c p)) 5 = allN (fun p => hoR (alM b) (liP TM' L (b 81) c p)) P
    refine allN_ext (by omega) (fun k hk => ?_) (fun k k1 k2 => ?_)
    · show hoR (alC a) (liP TM L (fun h => a (114 + h) 6) c (k : Int)) = hoR (alM b) (liP TM' L (b 81) c (k : Int))
      rw [el]
      exact hoR_congr _ (fun x hx y hy => al_eq hW hH (hL x (liP_mem x hx)) (hL y (liP_mem y hy)))
    · show hoR (alC a) (liP TM L (fun h => a (114 + h) 6) c (k : Int)) = true
      rw [el, liP_nil hv (by omega)]; rfl
  · show smL (fun s x => if x = ((TM s).length : Int) then 1 else 0) c = smL (fun s x => if x = ((TM' s).length : Int) then 1 else 0) c
    unfold smL
    refine sumN_congr (fun i hi => ?_)
    show (if c.getD ((i : Int)).toNat 0 = ((TM ((i : Int)).toNat).length : Int) then (1 : Int) else 0) = if c.getD ((i : Int)).toNat 0 = ((TM' ((i : Int)).toNat).length : Int) then 1 else 0
    rw [hT ((i : Int)).toNat (by omega)]
  · show smL (fun s x => lev (a (114 + L.getD s 0) 9) ((TM s).getD x.toNat (-1, -1, -1)) + lev (a (114 + L.getD s 0) 10) ((TM s).getD x.toNat (-1, -1, -1))) c = smL (fun s x => lev (b 87 (L.getD s 0)) ((TM' s).getD x.toNat (-1, -1, -1)) + lev (b 88 (L.getD s 0)) ((TM' s).getD x.toNat (-1, -1, -1))) c
    unfold smL
    refine sumN_congr (fun i hi => ?_)
    have hs : ((i : Int)).toNat < L.length := by omega
    have q := (hE _ (getD_mem hs)).2.2.1
    show lev (a (114 + L.getD ((i : Int)).toNat 0) 9) ((TM ((i : Int)).toNat).getD (c.getD ((i : Int)).toNat 0).toNat (-1, -1, -1)) + lev (a (114 + L.getD ((i : Int)).toNat 0) 10) ((TM ((i : Int)).toNat).getD (c.getD ((i : Int)).toNat 0).toNat (-1, -1, -1)) = lev (b 87 (L.getD ((i : Int)).toNat 0)) ((TM' ((i : Int)).toNat).getD (c.getD ((i : Int)).toNat 0).toNat (-1, -1, -1)) + lev (b 88 (L.getD ((i : Int)).toNat 0)) ((TM' ((i : Int)).toNat).getD (c.getD ((i : Int)).toNat 0).toNat (-1, -1, -1))
    rw [q.1, q.2, hT _ hs]
  · show sumN (fun p => trT (wyC a) (fun h => a (114 + h) 2) (hmC a p) (liP TM L (fun h => a (114 + h) 6) c p)) 5 = sumN (fun p => if liP TM' L (b 81) c p = [] then 0 else trT (wyM b) (b 83) (b 72 p) (liP TM' L (b 81) c p)) P
    refine sumN_ext (by omega) (fun k hk => ?_) (fun k k1 k2 => ?_)
    · show trT (wyC a) (fun h => a (114 + h) 2) (hmC a (k : Int)) (liP TM L (fun h => a (114 + h) 6) c (k : Int)) = if liP TM' L (b 81) c (k : Int) = [] then 0 else trT (wyM b) (b 83) (b 72 (k : Int)) (liP TM' L (b 81) c (k : Int))
      have hh := hP.2.2.2.1 (k : Int) (by omega) (by omega)
      have eh : hmC a (k : Int) = b 72 (k : Int) := by unfold hmC; rw [if_pos (by omega)]; exact hP.2.2.1 _
      rw [hP.2.2.1] at hh
      rw [el, eh, tr_eq hW hH hh (fun h q => hL h (liP_mem h q))]
      by_cases e : liP TM' L (b 81) c (k : Int) = []
      · rw [if_pos e, e]; exact tr_nil hW hh
      · rw [if_neg e]
    · show trT (wyC a) (fun h => a (114 + h) 2) (hmC a (k : Int)) (liP TM L (fun h => a (114 + h) 6) c (k : Int)) = 0
      have eh : hmC a (k : Int) = -1 := by unfold hmC; rw [if_neg (by omega)]
      rw [el, liP_nil hv (by omega), eh]
      show 0 + wyC a (-1) (-1) = 0
      unfold wyC
      rw [if_neg (by omega)]; rfl
set_option maxHeartbeats 4000000 in
theorem o_plan {X : Int → Int} {y kp : Int} (hk : kp = 0 ∨ kp = 1) : OP X 99 154 0 [(0, y), (0, kp)] := fun σ n hI => by
  have p1 := hI.p.1
  have p2 := hI.p.2.1
  obtain ⟨h1, h2, h3, h4, h5⟩ := hI.h
  have n1 := h1.1
  have n2 := h1.2.1
  have hb : 0 ≤ σ 69 12 ∧ σ 69 12 ≤ 24 := by rw [← h2]; exact ⟨h1.1, h1.2.1⟩
  have hh : ∀ b : Mem, IP σ b → ∀ q, 0 ≤ q → q < (((σ 3 2).toNat : Nat) : Int) → 0 ≤ b 72 q ∧ b 72 q ≤ 5 := fun b hp q q0 q1 => by rw [← hp.2.2.1]; exact hI.p.2.2.2.1 q q0 (by omega)
  refine s_plan (d := 9) hI.g h1 hI.a.2.1 hI.w.2.1 hk (fun h h0 h1 => (h4 h h0 h1).1) (h5 y) (fun c τ hg hN => ⟨_, rfl, fun j => ?_, ?_⟩) (fun c => ⟨_, rfl, hI.s, ?_⟩)
  · rw [hN.1 _ _ (by omega) (by omega) (by omega) (by omega) (by omega) (by omega)]; exact hI.s j
  · obtain ⟨N1, N2, N3, N4, N5, N6, N7, N8, N9⟩ := hN
    have F1 : ∀ c j, ¬ (c = 13 ∨ (c = 21 ∧ j = 2) ∨ (22 ≤ c ∧ c ≤ 23) ∨ (c = 24 ∧ 6 ≤ j ∧ j ≤ 11) ∨ (26 ≤ c ∧ c ≤ 49) ∨ (114 ≤ c ∧ (j = 9 ∨ j = 10))) → τ c j = σ c j := fun c j q => N1 c j (by omega) (by omega) (by omega) (by omega) (by omega) (by omega)
    have iw : IW σ τ := (hI.w.fr (a' := σ) (b' := τ) (fun _ _ _ => rfl) (fun c j q => F1 c j (by omega)))
    have ip : IP σ τ := (hI.p.fr (a' := σ) (b' := τ) (fun _ _ _ => rfl) (fun c j q => F1 c j (by omega)))
    have ia : IA σ τ := (hI.a.fr (a' := σ) (b' := τ) (fun _ _ _ => rfl) (fun c j q => F1 c j (by omega)))
    have ih : IH σ τ n := (hI.h.fr (a' := σ) (b' := τ) (fun _ _ _ => rfl) (fun c j q => F1 c j (by omega)))
    have eP : σ 3 2 = (((σ 3 2).toNat : Nat) : Int) := by omega
    have eL := dl_eq ih (y := y)
    have hL : ∀ h ∈ dlN (lvC σ y) (σ 14 1).toNat, 0 ≤ h ∧ h < σ 14 1 := fun h q => by have := dlN_b _ h q; omega
    have h5y := h5 y
    have hds : dst (dlN (lvC σ y) (σ 14 1).toNat) := dlN_dst _
    refine m_plan (d := 15) (P := (σ 3 2).toNat) hg (PM_of ia) (by rw [← ip.1]; exact eP) (by omega) hk (by rw [← ih.2.1]; exact ⟨h1.1, h1.2.1⟩) (HM_of ih) (HR_of ih) (hh τ ip) (WM_of iw) (by rw [← iw.2.2.2.1]; exact iw.2.2.2.2) (by rw [← eL]; exact h5y) (fun _ ρ hg2 hM => ?_) (fun c' => absurd c c')
    rw [← eL] at hM ⊢
    generalize dlN (lvC σ y) (σ 14 1).toNat = L at *
    have hT : ∀ s, s < L.length → TMc σ L s = TMm τ (σ 3 2).toNat L s := fun s hs => by
      have := hL _ (getD_mem hs)
      unfold TMc TMm
      exact tm_eq ip ia ih eP this.1 this.2
    have hv : ∀ s, ∀ t ∈ TMm τ (σ 3 2).toNat L s, tmV (σ 3 2).toNat t := fun s => tmL_v
    have hm : ∀ s, s < L.length → ∀ t ∈ TMm τ (σ 3 2).toNat L s, ¬ t.2.1 = -1 → (t.2.2 = -1 ↔ 90 < τ 82 (L.getD s 0)) := fun s hs t ht => tmL_m ht
    have eB : plB (decide (kp = 1)) (cstC σ σ L (TMc σ L)) (TMc σ L) L.length = plB (decide (kp = 1)) (cstM τ L (TMm τ (σ 3 2).toNat L) (σ 3 2).toNat) (TMm τ (σ 3 2).toNat L) L.length := by
      unfold plB
      exact sF_congr (cs_eq iw ip ih eP hL hT hv) (fun s hs => by show (TMc σ L s).length = _; rw [hT s hs]) L.length [] _ (by simp)
    have ePl : ∀ B s, s < L.length → plT B (TMc σ L) s = plT B (TMm τ (σ 3 2).toNat L) s := fun B s hs => by unfold plT; rw [hT s hs]
    rw [eB] at N3 N6 N7 N8 ⊢
    generalize plB (decide (kp = 1)) (cstM τ L (TMm τ (σ 3 2).toNat L) (σ 3 2).toNat) (TMm τ (σ 3 2).toNat L) L.length = B at *
    clear eB
    obtain ⟨M1, M3, M4, M5, M6, M7, M8⟩ := hM
    have G : ∀ c j, ¬ (69 ≤ c ∧ c ≤ 97) → ρ c j = τ c j := fun c j q => M1 c j (by omega) (by omega) (by omega)
    have F : ∀ c j, ¬ (c = 13 ∨ (c = 21 ∧ j = 2) ∨ (22 ≤ c ∧ c ≤ 23) ∨ (c = 24 ∧ 6 ≤ j ∧ j ≤ 11) ∨ (26 ≤ c ∧ c ≤ 49) ∨ (114 ≤ c ∧ (j = 9 ∨ j = 10)) ∨ (c = 69 ∧ (j = 28 ∨ (33 ≤ j ∧ j ≤ 38))) ∨ (90 ≤ c ∧ c ≤ 97) ∨ (87 ≤ c ∧ c ≤ 89)) → ρ c j = σ c j := fun c j q => by rw [M1 c j (by omega) (by omega) (by omega)]; exact F1 c j (by omega)
    refine ⟨rfl, hg2, fun j => by rw [F _ _ (by omega)]; exact hI.s j, (hI.w.fr (fun c j q => F c j (by omega)) (fun c j q => F c j (by omega))), (hI.p.fr (fun c j q => F c j (by omega)) (fun c j q => F c j (by omega))), (hI.a.fr (fun c j q => F c j (by omega)) (fun c j q => F c j (by omega))), ⟨?_, ?_, ?_, fun k k0 k1 => ?_, fun y' => ?_⟩, ⟨?_, ?_, ?_, ?_, ?_⟩, (hI.t.fr (fun c j q => F c j (by omega)) (fun c j q => F c j (by omega))), (hI.f.fr (fun c j q => F c j (by omega)) (fun c j q => F c j (by omega))), (hI.q.fr (fun c j q => F c j (by omega)) (fun c j q => F c j (by omega)))⟩
    · refine ⟨by rw [F _ _ (by omega)]; exact n1, by rw [F _ _ (by omega)]; exact n2, fun i i0 i1 => ?_⟩
      rw [F 14 1 (by omega)] at i1
      rw [F _ _ (by omega)]; exact h1.2.2 i i0 i1
    · rw [F _ _ (by omega), F _ _ (by omega)]; exact h2
    · rw [F _ _ (by omega)]; exact h3
    · rw [F 14 1 (by omega)] at k1
      have hk4 := h4 k k0 k1
      refine ⟨?_, ?_⟩
      · unfold HC
        rw [F _ 0 (by omega), F _ 1 (by omega), F _ 2 (by omega), F _ 3 (by omega), F _ 4 (by omega), F _ 5 (by omega), F _ 6 (by omega)]
        exact hk4.1
      · by_cases e : k ∈ L
        · obtain ⟨s, hs, es⟩ := List.getElem_of_mem e
          have ed : L.getD s 0 = k := by rw [List.getD_eq_getElem?_getD, List.getElem?_eq_getElem hs, es]; rfl
          have q3 := N3 s hs
          have m3 := M3 s hs
          rw [ed] at q3 m3
          rw [← G _ _ (by omega), ← G _ _ (by omega), ePl B s hs] at q3
          have hr : ¬ (plT B (TMm τ (σ 3 2).toNat L) s).2.1 = -1 → ((plT B (TMm τ (σ 3 2).toNat L) s).2.2 = -1 ↔ 90 < τ 82 k) := by
            have q := hm s hs
            rw [ed] at q
            unfold plT
            rcases Nat.lt_or_ge (B.2.2.2.getD s 0).toNat (TMm τ (σ 3 2).toNat L s).length with z | z
            · rw [List.getD_eq_getElem?_getD, List.getElem?_eq_getElem z]
              exact q _ (List.getElem_mem z)
            · rw [List.getD_eq_getElem?_getD, List.getElem?_eq_none z]
              exact fun z => absurd rfl z
          rw [F1 82 k (by omega)] at hr
          unfold HE
          rw [F 79 _ (by omega), F 80 _ (by omega), F 81 _ (by omega), F 82 _ (by omega), F 83 _ (by omega), F 84 _ (by omega), F 85 _ (by omega), F 86 _ (by omega), F _ 0 (by omega), F _ 1 (by omega), F _ 2 (by omega), F _ 3 (by omega), F _ 4 (by omega), F _ 5 (by omega), F _ 6 (by omega), F _ 7 (by omega), F _ 8 (by omega), m3.1, m3.2.1, m3.2.2, q3.1, q3.2]
          exact ⟨hk4.2.1, hk4.2.2.1, ⟨rfl, rfl⟩, hr⟩
        · refine hk4.2.fr (fun j => ?_) (fun c c0 c1 => ?_)
          · rw [G _ _ (by omega)]; exact N2 k j k0 e
          · rw [M1 c k (by omega) (by omega) (fun z => e z.2)]; exact F1 c k (by omega)
    · rw [F 14 1 (by omega), dlN_congr (q := lvC σ y') _ (fun i hi => by unfold lvC; rw [F _ 5 (by omega), F _ 7 (by omega)])]
      exact h5 y'
    · rw [G _ _ (by omega), N4, M4]
    · rw [G _ _ (by omega), N5, M5]
    · rw [G _ _ (by omega), N6, M6]
    · rw [G _ _ (by omega), N7, M7]
    · rw [G _ _ (by omega), N8, M8]
  · exact m_plan (d := 15) (P := (σ 3 2).toNat) hI.g (PM_of hI.a) (by rw [← p1]; omega) (by omega) hk hb (HM_of hI.h) (HR_of hI.h) (hh σ hI.p) (WM_of hI.w) (by rw [← hI.w.2.2.2.1]; exact hI.w.2.2.2.2) (by rw [← dl_eq hI.h]; exact h5 y) (fun c' => absurd c' c) (fun _ => ⟨rfl, hI⟩)
