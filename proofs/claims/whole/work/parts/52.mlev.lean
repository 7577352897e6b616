/-! plan: the reference: clashes and the search -/
def gbad (σ0 : Mem) (o s : Int) : Prop := (σ0 81 o ≤ σ0 81 s ∧ σ0 81 s - (σ0 81 o + σ0 82 o) < σ0 69 11) ∨ (σ0 81 s < σ0 81 o ∧ σ0 81 o - (σ0 81 s + σ0 82 s) < σ0 69 11)
theorem hoR_gap {σ0 : Mem} (hr : 0 ≤ σ0 69 11) : ∀ (l : List Int) (b : Int), (∀ e ∈ l, 10 ≤ σ0 82 e) → hoR (alM σ0) (b :: l) = true → ∀ a ∈ l, σ0 81 a + σ0 82 a + σ0 69 11 ≤ σ0 81 b := by
  intro l
  induction l with
  | nil => intro b _ _ a ha; exact absurd ha List.not_mem_nil
  | cons a0 l ih =>
    intro b hln hh a ha
    rw [hoR_c] at hh
    obtain ⟨h1, h2⟩ := Bool.and_eq_true _ _ ▸ hh
    have q := (of_decide_eq_true h1).1
    rcases List.mem_cons.mp ha with rfl | ha
    · omega
    · have := ih a0 (fun e he => hln e (List.mem_cons_of_mem _ he)) h2 a ha
      have := hln a0 List.mem_cons_self
      omega
theorem hoR_two {σ0 : Mem} (hr : 0 ≤ σ0 69 11) : ∀ (l : List Int), (∀ e ∈ l, 10 ≤ σ0 82 e) → hoR (alM σ0) l = true → ∀ x y, x ∈ l → y ∈ l → ¬ x = y → ¬ gbad σ0 x y := by
  intro l
  induction l with
  | nil => intro _ _ x y hx; exact absurd hx List.not_mem_nil
  | cons b l ih =>
    intro hln hh x y hx hy hne hb
    have gp := hoR_gap hr l b (fun e he => hln e (List.mem_cons_of_mem _ he)) hh
    have lx := hln x hx
    have ly := hln y hy
    unfold gbad at hb
    rcases List.mem_cons.mp hx with ex | hx2
    · rcases List.mem_cons.mp hy with ey | hy2
      · exact hne (by rw [ex, ey])
      · have := gp y hy2; rw [← ex] at this; omega
    · rcases List.mem_cons.mp hy with ey | hy2
      · have := gp x hx2; rw [← ey] at this; omega
      · exact ih (fun e he => hln e (List.mem_cons_of_mem _ he)) (hoR_t hh) x y hx2 hy2 hne hb
theorem tmA_app {TM : Nat → List Tm} {pf tl : List Int} {s : Nat} (h : s < pf.length) : tmA TM (pf ++ tl) s = tmA TM pf s := by
  have e : (pf ++ tl).getD s 0 = pf.getD s 0 := by rw [List.getD_eq_getElem?_getD, List.getD_eq_getElem?_getD, List.getElem?_append_left h]
  unfold tmA
  rw [e]
/-- a clash: no plan that goes on so holds -/
theorem clash_no {σ0 : Mem} {L pf : List Int} {TM : Nat → List Tm} {P o s p : Nat} (hC : CM σ0 L TM P) (hp : p < P) (ho : o < s) (hs : s < pf.length) (hl : pf.length ≤ L.length) (h1 : sitA (tmA TM pf o) p = true) (h2 : sitA (tmA TM pf s) p = true) (hb : gbad σ0 (L.getD o 0) (L.getD s 0)) (tl : List Int) : ¬ (cstM σ0 L TM P).1 (pf ++ tl) = true := by
  obtain ⟨hG0, h4, h28, h94, hH, hd, hT, hl20, htv, hPp, hho, hW, hr⟩ := hC
  intro hz
  have hh := allN_iff.mp hz p hp
  have mem : ∀ t : Nat, t < pf.length → sitA (tmA TM pf t) p = true → L.getD t 0 ∈ liP TM L (σ0 81) (pf ++ tl) p := fun t ht hsit => by
    have htl : t < L.length := by omega
    have hx := List.getElem?_eq_getElem htl
    have ed : L.getD t 0 = L[t] := by rw [List.getD_eq_getElem?_getD, hx]; rfl
    rw [ed]
    refine isR_mem.mpr (List.mem_filter.mpr ⟨List.getElem_mem htl, ?_⟩)
    unfold sH
    rw [ix_of hd hx, tmA_app ht]; exact hsit
  have hne : ¬ L.getD o 0 = L.getD s 0 := fun z => by
    have hx := List.getElem?_eq_getElem (show o < L.length by omega)
    have hy := List.getElem?_eq_getElem (show s < L.length by omega)
    rw [List.getD_eq_getElem?_getD, List.getD_eq_getElem?_getD, hx, hy] at z
    have z : L[o] = L[s] := z
    have := hd o s L[o] hx (by rw [hy, z])
    omega
  exact hoR_two hr.1 _ (fun e he => (hH e (List.mem_filter.mp (isR_mem.mp he)).1).2.2.1.1) hh _ _ (mem o (by omega) h1) (mem s hs h2) hne hb
set_option maxHeartbeats 4000000 in
theorem l_clash {d : Nat} {n : Nat} {Q : Pst} {σ0 σ : Mem} {L c : List Int} {TM : Nat → List Tm} {P s : Nat} (hC : CM σ0 L TM P) (hG : GR σ) (hf : ∀ c j, ¬ (95 ≤ c ∧ c ≤ 97) → ¬ (c = 69 ∧ 33 ≤ j ∧ j ≤ 36) → σ c j = σ0 c j) (h95 : ∀ t : Nat, t < c.length → σ 95 (t : Int) = c.getD t 0) (hv : vld TM c) (hcl : c.length = s + 1) (hsl : s < L.length) (ht : (∃ o p : Nat, o < s ∧ p < P ∧ sitA (tmA TM c o) p = true ∧ sitA (tmA TM c s) p = true ∧ gbad σ0 (L.getD o 0) (L.getD s 0)) → Q (some (0, 1)) σ n) (hn : Q (some (0, 0)) σ n) : ∀ (f o : Nat) (l3 l4 l5 : AV), o ≤ s → s - o < f → EV (d + 1) 151 2 [(22, 69), (0, (s : Int)), (0, (o : Int)), l3, l4, l5] [] σ n Q := by
  have hC0 := hC
  obtain ⟨hG0, h4, h28, h94, hH, hd, hT, hl20, htv, ⟨hPp, hP5⟩, hho, hW, hr⟩ := hC
  have gt : ∀ t : Nat, t < L.length → σ 94 (t : Int) = L.getD t 0 ∧ HR σ0 (L.getD t 0) := fun t htl => by
    refine ⟨by rw [hf 94 _ (by decide) (by omega)]; exact h94 t htl, ?_⟩
    rw [List.getD_eq_getElem?_getD, List.getElem?_eq_getElem htl]
    exact hH _ (List.getElem_mem htl)
  have e11 : σ 69 11 = σ0 69 11 := hf 69 11 (by decide) (by decide)
  have e81 : ∀ x, σ 81 x = σ0 81 x := fun x => hf 81 x (by decide) (by omega)
  have e82 : ∀ x, σ 82 x = σ0 82 x := fun x => hf 82 x (by decide) (by omega)
  obtain ⟨es, hs⟩ := gt s hsl
  obtain ⟨hs1, hs2, hs3, hs4⟩ := hs
  intro f
  induction f with
  | zero => intros; exfalso; omega
  | succ f ih =>
    intro o l3 l4 l5 ho hk
    refine r_151_2 (ht := fun c2 => ?_) (hf := fun c2 => ?_)
    · exact r_151_152 (k := hn)
    · have hos : o < s := by omega
      obtain ⟨eo, hh⟩ := gt o (by omega)
      obtain ⟨ho1, ho2, ho3, ho4⟩ := hh
      have hne : ¬ L.getD s 0 = L.getD o 0 := fun z => by
        have hx := List.getElem?_eq_getElem (show o < L.length by omega)
        have hy := List.getElem?_eq_getElem hsl
        rw [List.getD_eq_getElem?_getD, List.getD_eq_getElem?_getD, hx, hy] at z
        have z : L[s] = L[o] := z
        have := hd o s L[o] hx (by rw [hy, z])
        omega
      have nx : ∀ x3 x4 l5, EV (d + 1) 151 2 [(22, 69), (0, (s : Int)), (0, Zadd (o : Int) 1), (0, x3), (0, x4), l5] [] σ n Q := fun x3 x4 l5 => by
        rw [Zadd_nat (by omega)]
        exact ih (o + 1) _ _ _ (by omega) (by omega)
      -- the persons
      have ps : gbad σ0 (L.getD o 0) (L.getD s 0) → ∀ x3 x4 l5, EV (d + 1) 151 106 [(22, 69), (0, (s : Int)), (0, (o : Int)), (0, x3), (0, x4), l5] [] σ n Q := fun hb x3 x4 l5 => by
        refine r_151_106 (k := ?_)
        have loop : ∀ (g p : Nat), p ≤ P → P - p < g → EV (d + 1) 151 109 [(22, 69), (0, (s : Int)), (0, (o : Int)), (0, x3), (0, x4), (0, (p : Int))] [] σ n Q := by
          intro g
          induction g with
          | zero => intros; exfalso; omega
          | succ g ihg =>
            intro p hp hkg
            have e2 : σ 69 2 = (P : Int) := by rw [hf 69 2 (by decide) (by decide)]; exact hPp
            have np : p < P → EV (d + 1) 151 140 [(22, 69), (0, (s : Int)), (0, (o : Int)), (0, x3), (0, x4), (0, (p : Int))] [] σ n Q := fun hpP => by
              refine r_151_140 (k := ?_)
              rw [Zadd_nat (by omega)]
              exact ihg (p + 1) (by omega) (by omega)
            refine r_151_109 (ht := fun c3 => ?_) (hf := fun c3 => ?_)
            · exact r_151_146 (k := nx _ _ _)
            · have hpP : p < P := by omega
              refine r_151_118 (k := ?_)
              refine m_sits hC0 hG (fun c j a1 a2 => hf c j (by omega) (by omega)) (h95 o (by omega)) (hv o (by omega)) (by omega) (by omega) (fun c4 => ?_) (fun c4 => ?_)
              · dsimp only [Option.toList_some, List.cons_append, List.nil_append]
                refine r_151_125 (ht := fun c => absurd c (by decide)) (hf := fun _ => ?_)
                refine r_151_128 (k := ?_)
                refine m_sits hC0 hG (fun c j a1 a2 => hf c j (by omega) (by omega)) (h95 s (by omega)) (hv s (by omega)) hsl (by omega) (fun c5 => ?_) (fun c5 => ?_)
                · dsimp only [Option.toList_some, List.cons_append, List.nil_append]
                  refine r_151_135 (ht := fun c => absurd c (by decide)) (hf := fun _ => ?_)
                  exact r_151_138 (k := ht ⟨o, p, hos, hpP, c4, c5, hb⟩)
                · dsimp only [Option.toList_some, List.cons_append, List.nil_append]
                  refine r_151_135 (ht := fun _ => np hpP) (hf := fun c => absurd rfl c)
              · dsimp only [Option.toList_some, List.cons_append, List.nil_append]
                refine r_151_125 (ht := fun _ => np hpP) (hf := fun c => absurd rfl c)
        exact loop (P + 1) 0 (by omega) (by omega)
      refine r_151_7 (hG := hG) (h0 := by omega) (h1 := by rw [eo]; exact ho1) (h2 := by omega) (h3 := by rw [es]; exact hs1) (ht := fun c3 => ?_) (hf := fun c3 => ?_)
      · rw [eo, es, e81, e81] at c3
        refine r_151_41 (hG := hG) (h0 := by omega) (h1 := by omega) (ht := fun c4 => ?_) (hf := fun c4 => by exfalso; rw [eo, es] at c4; exact hne c4)
        have zg : Zsub (Zsub (σ 81 (σ 94 (o : Int))) (σ 81 (σ 94 (s : Int)))) (σ 82 (σ 94 (s : Int))) = σ0 81 (L.getD o 0) - (σ0 81 (L.getD s 0) + σ0 82 (L.getD s 0)) := by
          rw [eo, es, e81, e81, e82, Zsub_eq (a := σ0 81 (L.getD o 0)) (by omega) (by omega), Zsub_eq (by omega) (by omega)]; omega
        refine r_151_67 (hG := hG) (h0 := by omega) (h1 := by rw [eo]; exact ho1) (h2 := by rw [es]; exact hs1) (ht := fun c5 => ?_) (hf := fun c5 => ?_)
        · rw [zg, e11] at c5
          exact ps (Or.inr ⟨c3, c5⟩) _ _ _
        · exact r_151_103 (k := nx _ _ _)
      · rw [eo, es, e81, e81] at c3
        refine r_151_32 (hG := hG) (h0 := by omega) (ht := fun c4 => absurd rfl c4) (hf := fun _ => ?_)
        have zg : Zsub (Zsub (σ 81 (σ 94 (s : Int))) (σ 81 (σ 94 (o : Int)))) (σ 82 (σ 94 (o : Int))) = σ0 81 (L.getD s 0) - (σ0 81 (L.getD o 0) + σ0 82 (L.getD o 0)) := by
          rw [eo, es, e81, e81, e82, Zsub_eq (a := σ0 81 (L.getD s 0)) (by omega) (by omega), Zsub_eq (by omega) (by omega)]; omega
        refine r_151_58 (hG := hG) (h0 := by omega) (h1 := by rw [es]; exact hs1) (h2 := by rw [eo]; exact ho1) (ht := fun c5 => ?_) (hf := fun c5 => ?_)
        · rw [zg, e11] at c5
          exact ps (Or.inl ⟨c3, c5⟩) _ _ _
        · exact r_151_103 (k := nx _ _ _)
set_option maxHeartbeats 4000000 in
theorem l_lev {d : Nat} {n : Nat} {Q : Pst} {σ0 : Mem} {L : List Int} {TM : Nat → List Tm} {P : Nat} {keep : Bool} {kp y x5 : Int} {l6 l7 : AV} (hC : CM σ0 L TM P) (hkp : ¬ kp = 0 ↔ keep = true) : ∀ (r : Nat) (pf : List Int) (B : Bst), pf.length + r + 1 = L.length → vld TM pf → (∀ τ, QX σ0 τ L.length pf (-1) (sF keep (cstM σ0 L TM P) (fun s => (TM s).length) (r + 1) pf B) → EV (d + 4) 154 127 [(22, 69), (0, y), (0, kp), (0, (pf.length : Int) - 1), (0, (cstM σ0 L TM P).2.1 pf), (0, x5), l6, l7] [] τ n Q) → ∀ (f i : Nat) (σ : Mem), i ≤ (TM pf.length).length + 1 → (TM pf.length).length + 1 - i < f → QX σ0 σ L.length pf ((i : Int) - 1) (itN (fun i B => sF keep (cstM σ0 L TM P) (fun s => (TM s).length) r (pf ++ [(i : Int)]) B) i B) → EV (d + 4) 154 127 [(22, 69), (0, y), (0, kp), (0, (pf.length : Int)), (0, (cstM σ0 L TM P).2.1 pf + (if i = (TM pf.length).length + 1 then 1 else 0)), (0, x5), l6, l7] [] σ n Q := by
  have hC0 := hC
  obtain ⟨hG0, h4, h28, h94, hH, hd, hT, hl20, htv, ⟨hPp, hP5⟩, hho, hW, hr⟩ := hC
  intro r
  induction r with
  | zero =>
    intro pf B hpl hvl hq f
    induction f with
    | zero => intros; exfalso; omega
    | succ f ihf =>
      intro i σ hi hf hX
      have hG := hX.GR hG0
      have wb : 0 ≤ (cstM σ0 L TM P).2.1 pf ∧ (cstM σ0 L TM P).2.1 pf ≤ pf.length := cst_wo pf
      have hl20s := hl20 pf.length
      have e28 : σ 69 28 = (L.length : Int) := by rw [hX.1 69 28 (by decide) (by decide)]; exact h28
      have e93 : σ 93 (pf.length : Int) = ((TM pf.length).length : Int) := by rw [hX.1 93 _ (by decide) (by omega)]; exact (hT pf.length (by omega)).1
      have e95 := hX.2.2.2.1
      refine r_154_127 (ht := fun c => by exfalso; omega) (hf := fun _ => ?_)
      refine r_154_134 (ht := fun c => by exfalso; omega) (hf := fun _ => ?_)
      refine r_154_138 (hG := hG) (h0 := by omega) (h1 := by omega) (ht := fun c => ?_) (hf := fun c => ?_)
      · rw [e95, e93] at c
        rw [if_neg (show ¬ i = (TM pf.length).length + 1 by omega)]
        have ew : (cstM σ0 L TM P).2.1 (pf ++ [(i : Int)]) = (cstM σ0 L TM P).2.1 pf + (if (i : Int) = ((TM pf.length).length : Int) then 1 else 0) := smL_app (g := fun s x => if x = ((TM s).length : Int) then 1 else 0) (pf := pf) (i := (i : Int))
        have zi : Zadd (σ 95 (pf.length : Int)) 1 = (i : Int) := by rw [e95, Zadd_eq (by omega) (by omega)]; omega
        have fw : ∀ c j, ¬ c = 95 → wrM σ 95 (pf.length : Int) (i : Int) c j = σ c j := fun c j q => wr_ne q
        have hX2 : QX σ0 (wrM σ 95 (pf.length : Int) (i : Int)) L.length (pf ++ [(i : Int)]) (-1) (itN (fun i B => sF keep (cstM σ0 L TM P) (fun s => (TM s).length) 0 (pf ++ [(i : Int)]) B) i B) ∨ pf.length + 1 = 4 := by
          by_cases h3 : pf.length + 1 = 4
          · exact Or.inr h3
          · refine Or.inl ⟨fun c j a1 a2 => by rw [fw c j (by omega)]; exact hX.1 c j a1 a2, ⟨by rw [fw _ _ (by decide)]; exact hX.2.1.1, by rw [fw _ _ (by decide)]; exact hX.2.1.2.1, by rw [fw _ _ (by decide)]; exact hX.2.1.2.2⟩, fun s hs => ?_, ?_, fun s h1 h2 => ?_, fun s hs => by rw [fw _ _ (by decide)]; exact hX.2.2.2.2.2 s hs⟩
            · rw [List.length_append] at hs
              by_cases e : s = pf.length
              · rw [e, wr_same, getD_last]
              · have hs2 : s < pf.length := by simp at hs; omega
                rw [wr_nej (by omega), getD_app hs2]; exact hX.2.2.1 s hs2
            · rw [List.length_append]
              show wrM σ 95 (pf.length : Int) (i : Int) 95 ((pf.length + 1 : Nat) : Int) = -1
              rw [wr_nej (by omega)]; exact hX.2.2.2.2.1 _ (by omega) (by omega)
            · rw [List.length_append] at h1
              have h1 : ((pf.length + 1 : Nat) : Int) < s := h1
              rw [wr_nej (by omega)]; exact hX.2.2.2.2.1 s (by omega) h2
        have hXi : QX σ0 (wrM σ 95 (pf.length : Int) (i : Int)) L.length pf (i : Int) (itN (fun i B => sF keep (cstM σ0 L TM P) (fun s => (TM s).length) 0 (pf ++ [(i : Int)]) B) i B) := ⟨fun c j a1 a2 => by rw [fw c j (by omega)]; exact hX.1 c j a1 a2, ⟨by rw [fw _ _ (by decide)]; exact hX.2.1.1, by rw [fw _ _ (by decide)]; exact hX.2.1.2.1, by rw [fw _ _ (by decide)]; exact hX.2.1.2.2⟩, fun s hs => by rw [wr_nej (by omega)]; exact hX.2.2.1 s hs, wr_same, fun s h1 h2 => by rw [wr_nej (by omega)]; exact hX.2.2.2.2.1 s h1 h2, fun s hs => by rw [fw _ _ (by decide)]; exact hX.2.2.2.2.2 s hs⟩
        have vl2 : vld TM (pf ++ [(i : Int)]) := fun s hs => by
          rw [List.length_append] at hs
          by_cases e : s = pf.length
          · rw [e, getD_last]; omega
          · have hs2 : s < pf.length := by simp at hs; omega
            rw [getD_app hs2]; exact hvl s hs2
        have wb2 : (cstM σ0 L TM P).2.1 (pf ++ [(i : Int)]) ≤ pf.length + 1 := by rw [ew]; split <;> omega
        have hX3 : ∀ t : Nat, t < (pf ++ [(i : Int)]).length → wrM σ 95 (pf.length : Int) (i : Int) 95 (t : Int) = (pf ++ [(i : Int)]).getD t 0 := fun t ht => by
          rw [List.length_append] at ht
          by_cases e : t = pf.length
          · rw [e, wr_same, getD_last]
          · have hs2 : t < pf.length := by simp at ht; omega
            rw [wr_nej (by omega), getD_app hs2]; exact hX.2.2.1 t hs2
        -- the next one in this slot
        have next : ∀ τ, QX σ0 τ L.length pf (i : Int) (sF keep (cstM σ0 L TM P) (fun s => (TM s).length) 0 (pf ++ [(i : Int)]) (itN (fun i B => sF keep (cstM σ0 L TM P) (fun s => (TM s).length) 0 (pf ++ [(i : Int)]) B) i B)) → EV (d + 4) 154 127 [(22, 69), (0, y), (0, kp), (0, (pf.length : Int)), (0, (cstM σ0 L TM P).2.1 (pf ++ [(i : Int)])), (0, x5), l6, l7] [] τ n Q := fun τ hτ => by
          have q := ihf (i + 1) τ (by omega) (by omega) (by rw [itN_s, show ((i + 1 : Nat) : Int) - 1 = (i : Int) by omega]; exact hτ)
          rw [ew]
          have e1 : (if i + 1 = (TM pf.length).length + 1 then (1 : Int) else 0) = (if (i : Int) = ((TM pf.length).length : Int) then 1 else 0) := by
            by_cases h : i = (TM pf.length).length
            · rw [if_pos (by omega), if_pos (by omega)]
            · rw [if_neg (by omega), if_neg (by omega)]
          rw [e1] at q
          exact q
        -- behind the counting
        have cnt : (σ 69 34 < (cstM σ0 L TM P).2.1 (pf ++ [(i : Int)]) → EV (d + 4) 154 127 [(22, 69), (0, y), (0, kp), (0, (pf.length : Int)), (0, (cstM σ0 L TM P).2.1 (pf ++ [(i : Int)])), (0, x5), l6, l7] [] (wrM σ 95 (pf.length : Int) (i : Int)) n Q) ∧ ((cstM σ0 L TM P).2.1 (pf ++ [(i : Int)]) ≤ σ 69 34 → EV (d + 4) 154 213 [(22, 69), (0, y), (0, kp), (0, (pf.length : Int)), (0, (cstM σ0 L TM P).2.1 (pf ++ [(i : Int)])), (0, x5), l6, l7] [] (wrM σ 95 (pf.length : Int) (i : Int)) n Q) := by
          constructor
          · intro hgt
            refine next _ ?_
            rw [show sF keep (cstM σ0 L TM P) (fun s => (TM s).length) 0 (pf ++ [(i : Int)]) (itN (fun i B => sF keep (cstM σ0 L TM P) (fun s => (TM s).length) 0 (pf ++ [(i : Int)]) B) i B) = itN (fun i B => sF keep (cstM σ0 L TM P) (fun s => (TM s).length) 0 (pf ++ [(i : Int)]) B) i B from past 0 (Or.inl (by rw [← hX.2.1.1]; exact hgt))]
            exact hXi
          · intro hle
            refine r_154_213 (k := ?_)
            show EV (d + 3) 151 0 [(22, 69), (0, (pf.length : Int)), (9, 0), (9, 0), (9, 0), (9, 0)] [] _ n _
            refine r_151_0 (k := ?_)
            refine l_clash (d := d + 2) (s := pf.length) (c := pf ++ [(i : Int)]) hC0 (hXi.GR hG0) hXi.1 hX3 vl2 (by rw [List.length_append]; rfl) (by omega) (fun hcl => ?_) ?_ (pf.length + 1) 0 _ _ _ (by omega) (by omega)
            · dsimp only [Option.toList_some, List.cons_append, List.nil_append]
              refine r_154_218 (ht := fun c => absurd c (by decide)) (hf := fun _ => ?_)
              refine r_154_221 (k := next _ ?_)
              obtain ⟨o, p, c1, c2, c3, c4, c5⟩ := hcl
              rw [show sF keep (cstM σ0 L TM P) (fun s => (TM s).length) 0 (pf ++ [(i : Int)]) (itN (fun i B => sF keep (cstM σ0 L TM P) (fun s => (TM s).length) 0 (pf ++ [(i : Int)]) B) i B) = itN (fun i B => sF keep (cstM σ0 L TM P) (fun s => (TM s).length) 0 (pf ++ [(i : Int)]) B) i B from sF_id 0 _ _ (fun tl htl => by
                unfold wgh
                exact if_neg (fun z => clash_no hC0 c2 c1 (by rw [List.length_append]; simp) (by rw [List.length_append]; simp; omega) c3 c4 c5 tl z.1))]
              exact hXi
            · dsimp only [Option.toList_some, List.cons_append, List.nil_append]
              refine r_154_218 (ht := fun _ => ?_) (hf := fun c => absurd rfl c)
              have zl : Zadd (pf.length : Int) 1 = (pf.length : Int) + 1 := Zadd_eq (by omega) (by omega)
              have e28w : wrM σ 95 (pf.length : Int) (i : Int) 69 28 = (L.length : Int) := by rw [fw _ _ (by decide)]; exact e28
              refine r_154_224 (ht := fun _ => ?_) (hf := fun c => by exfalso; omega)
              refine r_154_240 (k := ?_)
              -- a whole choice: the state with all slots chosen
              have hfull : ∀ τ Bx, QX σ0 τ L.length pf (i : Int) Bx → ∃ x, QX σ0 τ L.length (pf ++ [(i : Int)]) x Bx := fun τ Bx h => by
                refine ⟨τ 95 (((pf ++ [(i : Int)]).length : Nat) : Int), h.1, h.2.1, fun s hs => ?_, rfl, fun s h1 h2 => ?_, h.2.2.2.2.2⟩
                · rw [List.length_append] at hs
                  by_cases e : s = pf.length
                  · rw [e, getD_last]; exact h.2.2.2.1
                  · have hs2 : s < pf.length := by simp at hs; omega
                    rw [getD_app hs2]; exact h.2.2.1 s hs2
                · rw [List.length_append] at h1
                  have h1 : ((pf.length + 1 : Nat) : Int) < s := h1
                  exact h.2.2.2.2.1 s (by omega) h2
              have hback : ∀ τ Bx x, QX σ0 τ L.length (pf ++ [(i : Int)]) x Bx → (∀ s : Int, (pf.length : Int) < s → s < 4 → τ 95 s = -1) → QX σ0 τ L.length pf (i : Int) Bx := fun τ Bx x h hm1 => by
                refine ⟨h.1, h.2.1, fun s hs => ?_, ?_, hm1, h.2.2.2.2.2⟩
                · rw [h.2.2.1 s (by rw [List.length_append]; simp; omega), getD_app hs]
                · have q := h.2.2.1 pf.length (by rw [List.length_append]; simp)
                  rw [getD_last] at q; exact q
              obtain ⟨xx, hXf⟩ := hfull _ _ hXi
              refine m_weighs (d := d + 1) (keep := keep) hC0 hXf vl2 (by rw [List.length_append]; simp; omega) hkp rfl (by rw [← hX.2.1.1]; exact hle) (fun τ hτ => ?_)
              dsimp only [Option.toList_none, List.nil_append]
              refine r_154_247 (k := next τ ?_)
              rw [sF_0]
              refine hback τ _ xx hτ (fun s h1 h2 => ?_)
              by_cases e : s = (((pf ++ [(i : Int)]).length : Nat) : Int)
              · rw [e, hτ.2.2.2.1, ← hXf.2.2.2.1, ← e]
                rw [wr_nej (by omega)]; exact hX.2.2.2.2.1 s h1 h2
              · have : (((pf ++ [(i : Int)]).length : Nat) : Int) = (pf.length : Int) + 1 := by rw [List.length_append]; simp
                exact hτ.2.2.2.2.1 s (by omega) h2
        refine r_154_169 (hG := hG) (h0 := by omega) (h1 := by omega) (ht := fun c2 => ?_) (hf := fun c2 => ?_)
        · rw [zi, e93] at c2
          rw [zi]
          have e0 : Zadd ((cstM σ0 L TM P).2.1 pf + 0) 0 = (cstM σ0 L TM P).2.1 (pf ++ [(i : Int)]) := by rw [Zadd_eq (by omega) (by omega), ew, if_neg c2]; omega
          refine r_154_200 (ht := fun c3 => ?_) (hf := fun c3 => ?_)
          · rw [e0, fw _ _ (by decide)] at c3
            rw [e0]
            exact cnt.1 c3
          · rw [e0, fw _ _ (by decide)] at c3
            rw [e0]
            exact cnt.2 c3
        · rw [zi, e93] at c2
          rw [zi]
          have e0 : Zadd ((cstM σ0 L TM P).2.1 pf + 0) 1 = (cstM σ0 L TM P).2.1 (pf ++ [(i : Int)]) := by rw [Zadd_eq (by omega) (by omega), ew, if_pos c2]; omega
          refine r_154_196 (ht := fun c3 => ?_) (hf := fun c3 => ?_)
          · rw [e0, fw _ _ (by decide)] at c3
            rw [e0]
            exact cnt.1 c3
          · rw [e0, fw _ _ (by decide)] at c3
            rw [e0]
            exact cnt.2 c3
      · rw [e95, e93] at c
        have ei : i = (TM pf.length).length + 1 := by omega
        rw [if_pos ei]
        refine r_154_153 (hG := hG) (h0 := by omega) (k := ?_)
        rw [Zadd_eq (a := (pf.length : Int)) (by omega) (by omega), Zadd_eq (by omega) (by omega), show (pf.length : Int) + -1 = (pf.length : Int) - 1 by omega, show (cstM σ0 L TM P).2.1 pf + 1 + -1 = (cstM σ0 L TM P).2.1 pf by omega]
        refine hq _ ?_
        rw [sF_s, ← ei]
        exact ⟨fun c j a1 a2 => by rw [wr_ne (by omega)]; exact hX.1 c j a1 a2, ⟨by rw [wr_ne (by decide)]; exact hX.2.1.1, by rw [wr_ne (by decide)]; exact hX.2.1.2.1, by rw [wr_ne (by decide)]; exact hX.2.1.2.2⟩, fun s hs => by rw [wr_nej (by omega)]; exact hX.2.2.1 s hs, wr_same, fun s h1 h2 => by rw [wr_nej (by omega)]; exact hX.2.2.2.2.1 s h1 h2, fun s hs => by rw [wr_ne (by decide)]; exact hX.2.2.2.2.2 s hs⟩
  | succ r ihr =>
    intro pf B hpl hvl hq f
    induction f with
    | zero => intros; exfalso; omega
    | succ f ihf =>
      intro i σ hi hf hX
      have hG := hX.GR hG0
      have wb : 0 ≤ (cstM σ0 L TM P).2.1 pf ∧ (cstM σ0 L TM P).2.1 pf ≤ pf.length := cst_wo pf
      have hl20s := hl20 pf.length
      have e28 : σ 69 28 = (L.length : Int) := by rw [hX.1 69 28 (by decide) (by decide)]; exact h28
      have e93 : σ 93 (pf.length : Int) = ((TM pf.length).length : Int) := by rw [hX.1 93 _ (by decide) (by omega)]; exact (hT pf.length (by omega)).1
      have e95 := hX.2.2.2.1
      refine r_154_127 (ht := fun c => by exfalso; omega) (hf := fun _ => ?_)
      refine r_154_134 (ht := fun c => by exfalso; omega) (hf := fun _ => ?_)
      refine r_154_138 (hG := hG) (h0 := by omega) (h1 := by omega) (ht := fun c => ?_) (hf := fun c => ?_)
      · rw [e95, e93] at c
        rw [if_neg (show ¬ i = (TM pf.length).length + 1 by omega)]
        have ew : (cstM σ0 L TM P).2.1 (pf ++ [(i : Int)]) = (cstM σ0 L TM P).2.1 pf + (if (i : Int) = ((TM pf.length).length : Int) then 1 else 0) := smL_app (g := fun s x => if x = ((TM s).length : Int) then 1 else 0) (pf := pf) (i := (i : Int))
        have zi : Zadd (σ 95 (pf.length : Int)) 1 = (i : Int) := by rw [e95, Zadd_eq (by omega) (by omega)]; omega
        have fw : ∀ c j, ¬ c = 95 → wrM σ 95 (pf.length : Int) (i : Int) c j = σ c j := fun c j q => wr_ne q
        have hX2 : QX σ0 (wrM σ 95 (pf.length : Int) (i : Int)) L.length (pf ++ [(i : Int)]) (-1) (itN (fun i B => sF keep (cstM σ0 L TM P) (fun s => (TM s).length) (r + 1) (pf ++ [(i : Int)]) B) i B) ∨ pf.length + 1 = 4 := by
          by_cases h3 : pf.length + 1 = 4
          · exact Or.inr h3
          · refine Or.inl ⟨fun c j a1 a2 => by rw [fw c j (by omega)]; exact hX.1 c j a1 a2, ⟨by rw [fw _ _ (by decide)]; exact hX.2.1.1, by rw [fw _ _ (by decide)]; exact hX.2.1.2.1, by rw [fw _ _ (by decide)]; exact hX.2.1.2.2⟩, fun s hs => ?_, ?_, fun s h1 h2 => ?_, fun s hs => by rw [fw _ _ (by decide)]; exact hX.2.2.2.2.2 s hs⟩
            · rw [List.length_append] at hs
              by_cases e : s = pf.length
              · rw [e, wr_same, getD_last]
              · have hs2 : s < pf.length := by simp at hs; omega
                rw [wr_nej (by omega), getD_app hs2]; exact hX.2.2.1 s hs2
            · rw [List.length_append]
              show wrM σ 95 (pf.length : Int) (i : Int) 95 ((pf.length + 1 : Nat) : Int) = -1
              rw [wr_nej (by omega)]; exact hX.2.2.2.2.1 _ (by omega) (by omega)
            · rw [List.length_append] at h1
              have h1 : ((pf.length + 1 : Nat) : Int) < s := h1
              rw [wr_nej (by omega)]; exact hX.2.2.2.2.1 s (by omega) h2
        have hXi : QX σ0 (wrM σ 95 (pf.length : Int) (i : Int)) L.length pf (i : Int) (itN (fun i B => sF keep (cstM σ0 L TM P) (fun s => (TM s).length) (r + 1) (pf ++ [(i : Int)]) B) i B) := ⟨fun c j a1 a2 => by rw [fw c j (by omega)]; exact hX.1 c j a1 a2, ⟨by rw [fw _ _ (by decide)]; exact hX.2.1.1, by rw [fw _ _ (by decide)]; exact hX.2.1.2.1, by rw [fw _ _ (by decide)]; exact hX.2.1.2.2⟩, fun s hs => by rw [wr_nej (by omega)]; exact hX.2.2.1 s hs, wr_same, fun s h1 h2 => by rw [wr_nej (by omega)]; exact hX.2.2.2.2.1 s h1 h2, fun s hs => by rw [fw _ _ (by decide)]; exact hX.2.2.2.2.2 s hs⟩
        have vl2 : vld TM (pf ++ [(i : Int)]) := fun s hs => by
          rw [List.length_append] at hs
          by_cases e : s = pf.length
          · rw [e, getD_last]; omega
          · have hs2 : s < pf.length := by simp at hs; omega
            rw [getD_app hs2]; exact hvl s hs2
        have wb2 : (cstM σ0 L TM P).2.1 (pf ++ [(i : Int)]) ≤ pf.length + 1 := by rw [ew]; split <;> omega
        have hX3 : ∀ t : Nat, t < (pf ++ [(i : Int)]).length → wrM σ 95 (pf.length : Int) (i : Int) 95 (t : Int) = (pf ++ [(i : Int)]).getD t 0 := fun t ht => by
          rw [List.length_append] at ht
          by_cases e : t = pf.length
          · rw [e, wr_same, getD_last]
          · have hs2 : t < pf.length := by simp at ht; omega
            rw [wr_nej (by omega), getD_app hs2]; exact hX.2.2.1 t hs2
        -- the next one in this slot
        have next : ∀ τ, QX σ0 τ L.length pf (i : Int) (sF keep (cstM σ0 L TM P) (fun s => (TM s).length) (r + 1) (pf ++ [(i : Int)]) (itN (fun i B => sF keep (cstM σ0 L TM P) (fun s => (TM s).length) (r + 1) (pf ++ [(i : Int)]) B) i B)) → EV (d + 4) 154 127 [(22, 69), (0, y), (0, kp), (0, (pf.length : Int)), (0, (cstM σ0 L TM P).2.1 (pf ++ [(i : Int)])), (0, x5), l6, l7] [] τ n Q := fun τ hτ => by
          have q := ihf (i + 1) τ (by omega) (by omega) (by rw [itN_s, show ((i + 1 : Nat) : Int) - 1 = (i : Int) by omega]; exact hτ)
          rw [ew]
          have e1 : (if i + 1 = (TM pf.length).length + 1 then (1 : Int) else 0) = (if (i : Int) = ((TM pf.length).length : Int) then 1 else 0) := by
            by_cases h : i = (TM pf.length).length
            · rw [if_pos (by omega), if_pos (by omega)]
            · rw [if_neg (by omega), if_neg (by omega)]
          rw [e1] at q
          exact q
        -- behind the counting
        have cnt : (σ 69 34 < (cstM σ0 L TM P).2.1 (pf ++ [(i : Int)]) → EV (d + 4) 154 127 [(22, 69), (0, y), (0, kp), (0, (pf.length : Int)), (0, (cstM σ0 L TM P).2.1 (pf ++ [(i : Int)])), (0, x5), l6, l7] [] (wrM σ 95 (pf.length : Int) (i : Int)) n Q) ∧ ((cstM σ0 L TM P).2.1 (pf ++ [(i : Int)]) ≤ σ 69 34 → EV (d + 4) 154 213 [(22, 69), (0, y), (0, kp), (0, (pf.length : Int)), (0, (cstM σ0 L TM P).2.1 (pf ++ [(i : Int)])), (0, x5), l6, l7] [] (wrM σ 95 (pf.length : Int) (i : Int)) n Q) := by
          constructor
          · intro hgt
            refine next _ ?_
            rw [show sF keep (cstM σ0 L TM P) (fun s => (TM s).length) (r + 1) (pf ++ [(i : Int)]) (itN (fun i B => sF keep (cstM σ0 L TM P) (fun s => (TM s).length) (r + 1) (pf ++ [(i : Int)]) B) i B) = itN (fun i B => sF keep (cstM σ0 L TM P) (fun s => (TM s).length) (r + 1) (pf ++ [(i : Int)]) B) i B from past (r + 1) (Or.inl (by rw [← hX.2.1.1]; exact hgt))]
            exact hXi
          · intro hle
            refine r_154_213 (k := ?_)
            show EV (d + 3) 151 0 [(22, 69), (0, (pf.length : Int)), (9, 0), (9, 0), (9, 0), (9, 0)] [] _ n _
            refine r_151_0 (k := ?_)
            refine l_clash (d := d + 2) (s := pf.length) (c := pf ++ [(i : Int)]) hC0 (hXi.GR hG0) hXi.1 hX3 vl2 (by rw [List.length_append]; rfl) (by omega) (fun hcl => ?_) ?_ (pf.length + 1) 0 _ _ _ (by omega) (by omega)
            · dsimp only [Option.toList_some, List.cons_append, List.nil_append]
              refine r_154_218 (ht := fun c => absurd c (by decide)) (hf := fun _ => ?_)
              refine r_154_221 (k := next _ ?_)
              obtain ⟨o, p, c1, c2, c3, c4, c5⟩ := hcl
              rw [show sF keep (cstM σ0 L TM P) (fun s => (TM s).length) (r + 1) (pf ++ [(i : Int)]) (itN (fun i B => sF keep (cstM σ0 L TM P) (fun s => (TM s).length) (r + 1) (pf ++ [(i : Int)]) B) i B) = itN (fun i B => sF keep (cstM σ0 L TM P) (fun s => (TM s).length) (r + 1) (pf ++ [(i : Int)]) B) i B from sF_id (r + 1) _ _ (fun tl htl => by
                unfold wgh
                exact if_neg (fun z => clash_no hC0 c2 c1 (by rw [List.length_append]; simp) (by rw [List.length_append]; simp; omega) c3 c4 c5 tl z.1))]
              exact hXi
            · dsimp only [Option.toList_some, List.cons_append, List.nil_append]
              refine r_154_218 (ht := fun _ => ?_) (hf := fun c => absurd rfl c)
              have zl : Zadd (pf.length : Int) 1 = (pf.length : Int) + 1 := Zadd_eq (by omega) (by omega)
              have e28w : wrM σ 95 (pf.length : Int) (i : Int) 69 28 = (L.length : Int) := by rw [fw _ _ (by decide)]; exact e28
              refine r_154_224 (ht := fun c => by exfalso; omega) (hf := fun _ => ?_)
              refine r_154_234 (k := ?_)
              rw [zl]
              have hX2' := hX2.resolve_right (by omega)
              have el : (pf ++ [(i : Int)]).length = pf.length + 1 := by rw [List.length_append]; rfl
              have q := ihr (pf ++ [(i : Int)]) (itN (fun i B => sF keep (cstM σ0 L TM P) (fun s => (TM s).length) (r + 1) (pf ++ [(i : Int)]) B) i B) (by omega) vl2 (fun τ hτ => ?_) ((TM (pf ++ [(i : Int)]).length).length + 2) 0 _ (by omega) (by omega) hX2'
              · rw [if_neg (by omega), el] at q
                have e1 : ((pf.length + 1 : Nat) : Int) = (pf.length : Int) + 1 := by omega
                rw [e1, show (cstM σ0 L TM P).2.1 (pf ++ [(i : Int)]) + 0 = (cstM σ0 L TM P).2.1 (pf ++ [(i : Int)]) by omega] at q
                exact q
              · rw [el, show ((pf.length + 1 : Nat) : Int) - 1 = (pf.length : Int) by omega]
                refine next τ ?_
                refine ⟨hτ.1, hτ.2.1, fun s hs => by rw [hτ.2.2.1 s (by omega), getD_app hs], ?_, fun s h1 h2 => ?_, hτ.2.2.2.2.2⟩
                · have q := hτ.2.2.1 pf.length (by omega)
                  rw [getD_last] at q; exact q
                · by_cases e : s = (pf.length : Int) + 1
                  · have q := hτ.2.2.2.1
                    rw [el, show ((pf.length + 1 : Nat) : Int) = s by omega] at q; exact q
                  · exact hτ.2.2.2.2.1 s (by rw [el]; omega) h2
        refine r_154_169 (hG := hG) (h0 := by omega) (h1 := by omega) (ht := fun c2 => ?_) (hf := fun c2 => ?_)
        · rw [zi, e93] at c2
          rw [zi]
          have e0 : Zadd ((cstM σ0 L TM P).2.1 pf + 0) 0 = (cstM σ0 L TM P).2.1 (pf ++ [(i : Int)]) := by rw [Zadd_eq (by omega) (by omega), ew, if_neg c2]; omega
          refine r_154_200 (ht := fun c3 => ?_) (hf := fun c3 => ?_)
          · rw [e0, fw _ _ (by decide)] at c3
            rw [e0]
            exact cnt.1 c3
          · rw [e0, fw _ _ (by decide)] at c3
            rw [e0]
            exact cnt.2 c3
        · rw [zi, e93] at c2
          rw [zi]
          have e0 : Zadd ((cstM σ0 L TM P).2.1 pf + 0) 1 = (cstM σ0 L TM P).2.1 (pf ++ [(i : Int)]) := by rw [Zadd_eq (by omega) (by omega), ew, if_pos c2]; omega
          refine r_154_196 (ht := fun c3 => ?_) (hf := fun c3 => ?_)
          · rw [e0, fw _ _ (by decide)] at c3
            rw [e0]
            exact cnt.1 c3
          · rw [e0, fw _ _ (by decide)] at c3
            rw [e0]
            exact cnt.2 c3
      · rw [e95, e93] at c
        have ei : i = (TM pf.length).length + 1 := by omega
        rw [if_pos ei]
        refine r_154_153 (hG := hG) (h0 := by omega) (k := ?_)
        rw [Zadd_eq (a := (pf.length : Int)) (by omega) (by omega), Zadd_eq (by omega) (by omega), show (pf.length : Int) + -1 = (pf.length : Int) - 1 by omega, show (cstM σ0 L TM P).2.1 pf + 1 + -1 = (cstM σ0 L TM P).2.1 pf by omega]
        refine hq _ ?_
        rw [sF_s, ← ei]
        exact ⟨fun c j a1 a2 => by rw [wr_ne (by omega)]; exact hX.1 c j a1 a2, ⟨by rw [wr_ne (by decide)]; exact hX.2.1.1, by rw [wr_ne (by decide)]; exact hX.2.1.2.1, by rw [wr_ne (by decide)]; exact hX.2.1.2.2⟩, fun s hs => by rw [wr_nej (by omega)]; exact hX.2.2.1 s hs, wr_same, fun s h1 h2 => by rw [wr_nej (by omega)]; exact hX.2.2.2.2.1 s h1 h2, fun s hs => by rw [wr_ne (by decide)]; exact hX.2.2.2.2.2 s hs⟩
