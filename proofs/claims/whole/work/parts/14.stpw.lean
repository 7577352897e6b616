/-! one instruction of the small machine, over the machine -/
def stxL : List String := ["from", "least", "way", "pair", "relay", "late", "rate"]
def stxF (i : Nat) : String := stxL.getD i ""
def lenS : List Nat := strL.map List.length
def bytS : List (List Int32) := strL.map (fun l => l.map Int32.ofInt)
def nstW : List Cond := nkL.map (fun e => Cond.methodLinkNest (ownF e.1) e.2.1 (myF e.2.2) "HearingDesk")
def EnvU (D : va_G) (C5 : Nat → ClassId) (adK : Nat → Nat) (U : State) : Prop := va_K D cl13 (tysM C5) U ∧ (∀ w ∈ nstW, va_Nw w U) ∧ va_AO RX3 U ∧ va_AO RX9 U ∧ (∀ e ∈ stL, vk_R (ownF e.1) e.2.1 (stxF e.2.2) (adK e.2.2) U)
def StrU (adK adV : Nat → Nat) (A : Nat → Prop) (U : State) (H : Heap) : Prop := vk_S 7 lenS bytS adK adV A U H ∧ va_Z "java/lang/String" "COMPACT_STRINGS" "Z" (.int 1) A U H ∧ va_Zq "jdk/internal/util/Preconditions" "SIOOBE_FORMATTER" "Ljava/util/function/BiFunction;" A U H
def csz (k : Nat) : Nat := if shF k < 50 then nfF (shF k - 10) else (lnF k).toNat
def ssM : Nat → Nat
  | 0 => 0
  | k + 1 => ssM k + csz k
theorem ss_mono {a b : Nat} (h : a ≤ b) : ssM a ≤ ssM b := by
  induction h with
  | refl => exact Nat.le_refl _
  | step _ ih => exact Nat.le_trans ih (Nat.le_add_right _ _)
/-- what stands while a method m runs: d calls deep at most below it -/
def CxM (p : Program) (R : Room) (s : State) (mid : MethodId) (args : Array Value) (meth : Method) (c : Code) (D : va_G) (C5 : Nat → ClassId) (adK adV : Nat → Nat) (b0 : Nat) (A : Nat → Prop) (d m : Nat) (xs : Int → Int) : Prop :=
  p.tables.exec = Jvm.exec ∧ c.code = mcF m ∧ c.maxLocals = mlF m ∧ s.vm.findClass (ownF (moF m)) = some mid.cls ∧ (∀ w ∈ gtbl, w.before args s = true) ∧ EnvU D C5 adK s ∧ StrU adK adV A s s.heap ∧ (∀ q, s.heap.size ≤ q → A q) ∧ ((pwF m).2.2.2.2 = 2 → meth.name = "<init>") ∧ 2 * d + 4 ≤ R.frames ∧ 60 * d + 100 ≤ R.locals ∧ (m = 179 → va_X b0 (xs (-1)).toNat (fun j => Int32.ofInt (xs j)) s s.heap ∧ b0 < s.heap.size ∧ ¬ A b0 ∧ 0 ≤ xs (-1))
def S44 : Prop := ∀ {p : Program} {l : Launch} {e : Env} {R : Room} {s : State} {mid : MethodId} {args : Array Value} {below : List Frame} {meth : Method} {c : Code} {H : Heap} {locs : List Loc} {cells slots : Nat} {Q : State → Prop} {m pc nx a b : Nat} {v : Int} {ts : List (Int × Nat)} {ls : Array Slot} {rest : List Value} {adK adV : Nat → Nat} {A : Nat → Prop} {k : Int}, p.tables.exec = Jvm.exec → c.code = mcF m → s.vm.findClass (ownF (moF m)) = some mid.cls → (∀ w ∈ gtbl, w.before args s = true) → StrU adK adV A s s.heap → va_S A s.heap H locs → ls.size = c.maxLocals → 4 ≤ R.frames → 100 ≤ R.locals → cells ≤ R.cells → slots ≤ R.slots → okI m pc (44, nx, a, b, v, ts) = true → 0 ≤ k → k < 7 → (rest.map fun v => v.category).sum ≤ 8 → W p l e R s mid args below meth c H locs cells slots Q (F0 mid nx ls (.int (Int32.ofInt (slF k)) :: rest)) → W p l e R s mid args below meth c H locs cells slots Q (F0 mid pc ls (.ref (adK k.toNat) :: rest))
def S45 : Prop := ∀ {p : Program} {l : Launch} {e : Env} {R : Room} {s : State} {mid : MethodId} {args : Array Value} {below : List Frame} {meth : Method} {c : Code} {H : Heap} {locs : List Loc} {cells slots : Nat} {Q : State → Prop} {m pc nx a b : Nat} {v : Int} {ts : List (Int × Nat)} {ls : Array Slot} {rest : List Value} {adK adV : Nat → Nat} {A : Nat → Prop} {k i : Int}, p.tables.exec = Jvm.exec → c.code = mcF m → s.vm.findClass (ownF (moF m)) = some mid.cls → (∀ w ∈ gtbl, w.before args s = true) → StrU adK adV A s s.heap → va_S A s.heap H locs → ls.size = c.maxLocals → 4 ≤ R.frames → 100 ≤ R.locals → cells ≤ R.cells → slots ≤ R.slots → okI m pc (45, nx, a, b, v, ts) = true → 0 ≤ k → k < 7 → 0 ≤ i → i < slF k → (rest.map fun v => v.category).sum ≤ 8 → W p l e R s mid args below meth c H locs cells slots Q (F0 mid nx ls (.int (Int32.ofInt (scF k i)) :: rest)) → W p l e R s mid args below meth c H locs cells slots Q (F0 mid pc ls (.int (Int32.ofInt i) :: .ref (adK k.toNat) :: rest))
section STW
variable {p : Program} {l : Launch} {e : Env} {R : Room} {s : State} {mid : MethodId} {args : Array Value} {below : List Frame} {meth : Method} {c : Code} {H : Heap} {locs : List Loc} {Q : State → Prop}
variable {D : va_G} {C5 : Nat → ClassId} {ad adK adV : Nat → Nat} {b0 : Nat} {A : Nat → Prop} {xs : Int → Int}
set_option maxHeartbeats 4000000 in
theorem stp_W (h44 : S44) (h45 : S45) {d m pc op nx a b : Nat} {v : Int} {ts : List (Int × Nat)} {L st : List AV} {σ : Mem} {n pc' : Nat} {L' st' : List AV} {σ' : Mem} {n' n0 N : Nat} {ls : Array Slot} (hI : okI m pc (op, nx, a, b, v, ts) = true) (h179 : op = 47 ∨ op = 48 → m = 179) (h4 : op = 4 → a < mlF m) (h : stpM S0 op nx a b v ts L st σ n = some (pc', L', st', σ', n')) (hC : okC m n L st σ) (X : CxM p R s mid args meth c D C5 adK adV b0 A d m xs) (hn0 : n0 ≤ n) (hN : n' ≤ N) (hRc : N - n0 ≤ R.cells) (hRs : ssM N - ssM n0 ≤ R.slots) (hxs : ∀ j, σ (-2) j = xs j) (hP : va_P D cl13 (wsM ad C5 n σ) H) (hD : va_D A (wsM ad C5 n σ)) (hS : va_S A s.heap H locs) (hLr : LrM ad adK b0 ls (mlF m) L)
    (K : ∀ (ad' : Nat → Nat) (ls' : Array Slot) (H' : Heap) (locs' : List Loc), (∀ k, k < n → ad' k = ad k) → va_P D cl13 (wsM ad' C5 n' σ') H' → va_D A (wsM ad' C5 n' σ') → va_S A s.heap H' locs' → LrM ad' adK b0 ls' (mlF m) L' → W p l e R s mid args below meth c H' locs' (n' - n0) (ssM n' - ssM n0) Q (F0 mid pc' ls' (st'.map (cnV ad' adK b0)))) :
    W p l e R s mid args below meth c H locs (n - n0) (ssM n - ssM n0) Q (F0 mid pc ls (st.map (cnV ad adK b0))) := by
  obtain ⟨hx, hb, hml, hown, hts, ⟨hK, hNw, ho1, ho2, hSt⟩, hStr, hA, hin, hfr, hlo, hsc⟩ := X
  obtain ⟨hM, hL, hS', hG⟩ := id hC
  have hsz : ls.size = c.maxLocals := by rw [hml]; exact hLr.2.1
  have hcs : ∀ {q : Nat}, n ≤ q → q ≤ N → q - n0 ≤ R.cells := fun h1 h2 => by omega
  unfold stpM at h
  split at h
  · -- 0
    simp only [Option.some.injEq, Prod.mk.injEq] at h
    obtain ⟨rfl, rfl, rfl, rfl, rfl⟩ := h
    exact w_0 hx hb hown hts hI (K ad ls H locs (fun _ _ => rfl) hP hD hS hLr)
  · -- 1
    simp only [Option.some.injEq, Prod.mk.injEq] at h
    obtain ⟨rfl, rfl, rfl, rfl, rfl⟩ := h
    exact w_1 hx hb hown hts hI (K ad ls H locs (fun _ _ => rfl) hP hD hS hLr)
  · -- 2
    simp only [Option.some.injEq, Prod.mk.injEq] at h
    obtain ⟨rfl, rfl, rfl, rfl, rfl⟩ := h
    have k := K ad ls H locs (fun _ _ => rfl) hP hD hS hLr
    have hb10 : 10 ≤ b := by simp only [okI, Bool.and_eq_true, decide_eq_true_eq] at hI; exact hI.2
    rw [List.map_cons, cn_n hb10 (by omega)] at k
    exact w_2 hx hb hI k
  · -- 3
    split at h
    · rename_i x hx1
      split at h
      · rename_i hk
        simp only [Option.some.injEq, Prod.mk.injEq] at h
        obtain ⟨rfl, rfl, rfl, rfl, rfl⟩ := h
        have k := K ad ls H locs (fun _ _ => rfl) hP hD hS hLr
        rw [List.map_cons] at k
        have hb2 : b ≤ 2 := by simp only [okI, Bool.and_eq_true, decide_eq_true_eq] at hI; exact hI.1
        have h9 : ¬ x.1 = 9 := by
          intro q
          unfold kdM at hk
          rw [q] at hk
          simp at hk
          omega
        have hl := hLr.2.2.2 a x hx1 h9
        have hv := (hL x (List.mem_of_getElem? hx1)).resolve_left h9
        obtain ⟨t, w⟩ := x
        rcases hv with ⟨q, q2⟩ | ⟨q, q2⟩ | ⟨q, q2⟩ | q | ⟨q, q2⟩
        · simp only at q
          subst q
          exact w_3i hx hb hI (by rw [← hk]; rfl) hl k
        · simp only at q
          subst q
          exact w_3l hx hb hI (by rw [← hk]; rfl) hl k
        · simp only at q
          subst q
          exact w_3a hx hb hI (by rw [← hk]; rfl) hl k
        · simp only at q
          subst q
          exact w_3a hx hb hI (by rw [← hk]; rfl) hl k
        · simp only at q q2
          have hb1 : b = 1 := by
            rw [← hk]
            unfold kdM
            rw [if_neg (by simp only; omega), if_neg (by simp only; omega), if_neg (by simp only; omega)]
          by_cases hw : w < 0
          · rw [cn_n q hw] at hl k
            exact w_3n hx hb hI hb1 hl k
          · rw [cn_r q (by omega)] at hl k
            exact w_3a hx hb hI hb1 hl k
      · cases h
    · cases h
  · -- 4
    split at h
    · rename_i x st0
      split at h
      · rename_i hk
        simp only [Option.some.injEq, Prod.mk.injEq] at h
        obtain ⟨rfl, rfl, rfl, rfl, rfl⟩ := h
        obtain ⟨k1, k2, k3⟩ := hk
        have hI' := hI
        simp only [okI, Bool.and_eq_true, Bool.or_eq_true, decide_eq_true_eq] at hI'
        have hb2 : b ≤ 2 := hI'.1.1.1
        have hnl : noLM L a = true ∨ ∀ y ∈ L, ¬ y.1 = 2 := by
          rcases k3 with q | q
          · rcases hI'.1.1.2 with z | z
            · omega
            · exact Or.inr (hG z.2)
          · exact Or.inl q
        rw [List.map_cons]
        have hv := ok_head hS'
        have hlen := hLr.1
        obtain ⟨t, w⟩ := x
        rcases hv with ⟨q, q2⟩ | ⟨q, q2⟩ | ⟨q, q2⟩ | q | ⟨q, q2⟩
        · simp only at q
          subst q
          exact w_4i hx hb hI (by rw [← k1]; rfl) hLr.has (h4 rfl) (fun ls' h' => K ad ls' H locs (fun _ _ => rfl) hP hD hS (hLr.of_store (x := (0, w)) hnl (by simp) h'))
        · simp only at q
          subst q
          have hb' : b = 2 := by rw [← k1]; rfl
          have hnl2 : noLM L a = true := by
            rcases k3 with z | z
            · rcases hI'.1.1.2 with z2 | z2
              · omega
              · rcases hI'.1.2 with z3 | z3
                · omega
                · exact absurd z3 z2.2
            · exact z
          exact w_4l hx hb hI hb' hLr.has (by omega) (fun ls' h' => K ad ls' H locs (fun _ _ => rfl) hP hD hS (hLr.of_store2 (x := (2, w)) hnl2 h'))
        · simp only at q
          subst q
          exact w_4a hx hb hI (by rw [← k1]; rfl) hLr.has (h4 rfl) (fun ls' h' => K ad ls' H locs (fun _ _ => rfl) hP hD hS (hLr.of_store (x := (3, w)) hnl (by simp) h'))
        · simp only at q
          subst q
          exact w_4a hx hb hI (by rw [← k1]; rfl) hLr.has (h4 rfl) (fun ls' h' => K ad ls' H locs (fun _ _ => rfl) hP hD hS (hLr.of_store (x := (5, w)) hnl (by simp) h'))
        · simp only at q q2
          have hb1 : b = 1 := by
            rw [← k1]
            unfold kdM
            rw [if_neg (by simp only; omega), if_neg (by simp only; omega), if_neg (by simp only; omega)]
          have hK1 : ∀ ls', LrM ad adK b0 ls' (mlF m) (L.set a (t, w)) → W p l e R s mid args below meth c H locs (n - n0) (ssM n - ssM n0) Q (F0 mid nx ls' (st0.map (cnV ad adK b0))) := by
            intro ls' h'
            have k := K ad ls' H locs (fun _ _ => rfl) hP hD hS
            unfold stoM at k
            rw [if_neg (by simp only; omega)] at k
            exact k h'
          by_cases hw : w < 0
          · rw [cn_n q hw]
            exact w_4n hx hb hI hb1 hLr.has (by omega) (fun ls' h' => hK1 ls' (hLr.of_store (x := (t, w)) hnl (by simp only; omega) (by rw [cn_n q hw]; exact h')))
          · rw [cn_r q (by omega)]
            exact w_4a hx hb hI hb1 hLr.has (by omega) (fun ls' h' => hK1 ls' (hLr.of_store (x := (t, w)) hnl (by simp only; omega) (by rw [cn_r q (by omega)]; exact h')))
      · cases h
    · cases h
  · -- 5
    split at h
    · rename_i x hx1
      split at h
      · rename_i hk
        simp only [Option.some.injEq, Prod.mk.injEq] at h
        obtain ⟨rfl, rfl, rfl, rfl, rfl⟩ := h
        have hI' := hI
        simp only [okI, Bool.and_eq_true, Bool.or_eq_true, decide_eq_true_eq] at hI'
        have hnl : noLM L a = true ∨ ∀ y ∈ L, ¬ y.1 = 2 := by
          rcases hk.2 with q | q
          · rcases hI'.2 with z | z
            · omega
            · exact Or.inr (hG z.2)
          · exact Or.inl q
        obtain ⟨t, w⟩ := x
        have ht : t = 0 := hk.1
        subst ht
        have hm := lvL_mem (ad := ad) (adK := adK) (b0 := b0) hx1 (by simp)
        have han : a < mlF m := by rw [← hLr.1]; exact (List.getElem?_eq_some_iff.mp hx1).1
        refine w_5 (x := Int32.ofInt w) hx hb hI hLr.has hm han (fun ls' h' => K ad ls' H locs (fun _ _ => rfl) hP hD hS (hLr.of_store (x := (0, Zadd w v)) hnl (by simp) ?_))
        rw [cn_i, Zadd, r32]
        exact h'
      · cases h
    · cases h
  · -- 6
    split at h
    · split at h
      · rename_i hz
        simp only [Option.some.injEq, Prod.mk.injEq] at h
        obtain ⟨rfl, rfl, rfl, rfl, rfl⟩ := h
        exact w_6 hx hb hI (ok_head hS').int hz (K ad ls H locs (fun _ _ => rfl) hP hD hS hLr)
      · cases h
    · cases h
  · -- 7
    split at h
    · split at h
      · rename_i hz
        simp only [Option.some.injEq, Prod.mk.injEq] at h
        obtain ⟨rfl, rfl, rfl, rfl, rfl⟩ := h
        exact w_7 hx hb hI (ok_head hS').long hz (K ad ls H locs (fun _ _ => rfl) hP hD hS hLr)
      · cases h
    · cases h
  · -- 8
    split at h
    · simp only [Option.some.injEq, Prod.mk.injEq] at h
      obtain ⟨rfl, rfl, rfl, rfl, rfl⟩ := h
      exact w_8 hx hb hI (ok_head hS').int (K ad ls H locs (fun _ _ => rfl) hP hD hS hLr)
    · cases h
  · -- 9
    split at h
    · simp only [Option.some.injEq, Prod.mk.injEq] at h
      obtain ⟨rfl, rfl, rfl, rfl, rfl⟩ := h
      exact w_9 hx hb hI (K ad ls H locs (fun _ _ => rfl) hP hD hS hLr)
    · cases h
  · -- 10
    split at h
    · simp only [Option.some.injEq, Prod.mk.injEq] at h
      obtain ⟨rfl, rfl, rfl, rfl, rfl⟩ := h
      exact w_10 hx hb hI (ok_head (ok_tail hS')).long (ok_head hS').long (K ad ls H locs (fun _ _ => rfl) hP hD hS hLr)
    · cases h
  · -- 11
    split at h
    · rename_i x st0
      split at h
      · cases h
      · rename_i h2
        simp only [Option.some.injEq, Prod.mk.injEq] at h
        obtain ⟨rfl, rfl, rfl, rfl, rfl⟩ := h
        exact w_11 hx hb hI (by rw [cn_cat]; exact if_neg h2) (K ad ls H locs (fun _ _ => rfl) hP hD hS hLr)
    · cases h
  · -- 12
    split at h
    · rename_i x y st0
      split at h
      · cases h
      · rename_i h2
        simp only [Option.some.injEq, Prod.mk.injEq] at h
        obtain ⟨rfl, rfl, rfl, rfl, rfl⟩ := h
        exact w_12 hx hb hI (by rw [cn_cat]; exact if_neg (fun z => h2 (Or.inl z))) (by rw [cn_cat]; exact if_neg (fun z => h2 (Or.inr z))) (K ad ls H locs (fun _ _ => rfl) hP hD hS hLr)
    · cases h
  · -- 13
    split at h
    · simp only [Option.some.injEq, Prod.mk.injEq] at h
      obtain ⟨rfl, rfl, rfl, rfl, rfl⟩ := h
      exact w_13 hx hb hI (ok_head hS').int (K ad ls H locs (fun _ _ => rfl) hP hD hS hLr)
    · cases h
  · -- 14
    split at h
    · simp only [Option.some.injEq, Prod.mk.injEq] at h
      obtain ⟨rfl, rfl, rfl, rfl, rfl⟩ := h
      exact w_14 hx hb hI (ok_head (ok_tail hS')).int (ok_head hS').int (K ad ls H locs (fun _ _ => rfl) hP hD hS hLr)
    · cases h
  · -- 15
    split at h
    · split at h
      · rename_i hk
        simp only [Option.some.injEq, Prod.mk.injEq] at h
        obtain ⟨rfl, rfl, rfl, rfl, rfl⟩ := h
        exact w_15 hx hb hI hk (K ad ls H locs (fun _ _ => rfl) hP hD hS hLr)
      · cases h
    · cases h
  · -- 16
    split at h
    · split at h
      · rename_i hk
        simp only [Option.some.injEq, Prod.mk.injEq] at h
        obtain ⟨rfl, rfl, rfl, rfl, rfl⟩ := h
        exact w_16 hx hb hI hk (K ad ls H locs (fun _ _ => rfl) hP hD hS hLr)
      · cases h
    · cases h
  · -- 17
    split at h
    · split at h
      · rename_i hk
        simp only [Option.some.injEq, Prod.mk.injEq] at h
        obtain ⟨rfl, rfl, rfl, rfl, rfl⟩ := h
        exact w_17 (n := n) hx hb hI hk.1 hk.2 (ok_head (ok_tail hS')) (ok_head hS') (fun i j hi hj e => hD.1 i j _ _ (ws_get hi) (ws_get hj) e) (K ad ls H locs (fun _ _ => rfl) hP hD hS hLr)
      · cases h
    · cases h
  · -- 18
    simp only [Option.some.injEq, Prod.mk.injEq] at h
    obtain ⟨rfl, rfl, rfl, rfl, rfl⟩ := h
    exact w_18 hx hb hI (K ad ls H locs (fun _ _ => rfl) hP hD hS hLr)
  · -- 19
    split at h
    · simp only [Option.some.injEq, Prod.mk.injEq] at h
      obtain ⟨rfl, rfl, rfl, rfl, rfl⟩ := h
      exact w_19 hx hb hI (ok_head hS').int (K ad ls H locs (fun _ _ => rfl) hP hD hS hLr)
    · cases h
  · -- 21
    split at h
    · rename_i t k st0
      split at h
      · rename_i hk
        simp only [Option.some.injEq, Prod.mk.injEq] at h
        obtain ⟨rfl, rfl, rfl, rfl, rfl⟩ := h
        obtain ⟨rfl, hk0⟩ := hk
        exact w_21 hx hb hown hts hK hP hI (ok_head hS') hk0 (K ad ls H locs (fun _ _ => rfl) hP hD hS hLr)
      · cases h
    · cases h
  · -- 22
    split at h
    · rename_i t' x t k st0
      split at h
      · rename_i hk
        simp only [Option.some.injEq, Prod.mk.injEq] at h
        obtain ⟨rfl, rfl, rfl, rfl, rfl⟩ := h
        obtain ⟨rfl, hk0, rfl⟩ := hk
        exact w_22 hx hb hown hts hK hP hD hS hin hI (ok_head (ok_tail hS')) hk0 (fun H1 locs1 p1 p2 p3 => K ad ls H1 locs1 (fun _ _ => rfl) p1 p2 p3 hLr)
      · cases h
    · cases h
  · -- 23
    split at h
    · rename_i x t k st0
      split at h
      · rename_i hk
        simp only [Option.some.injEq, Prod.mk.injEq] at h
        obtain ⟨rfl, rfl, rfl, rfl, rfl⟩ := h
        obtain ⟨rfl, hk0, hk1⟩ := hk
        exact w_23 hx hb hown hts hK hP hD hS hI (ok_head (ok_tail hS')) hk0 hk1 (fun H1 locs1 p1 p2 p3 => K ad ls H1 locs1 (fun _ _ => rfl) p1 p2 p3 hLr)
      · cases h
    · cases h
  · -- 24
    split at h
    · rename_i i t k st0
      split at h
      · rename_i hk
        simp only [Option.some.injEq, Prod.mk.injEq] at h
        obtain ⟨rfl, rfl, rfl, rfl, rfl⟩ := h
        obtain ⟨rfl, hk0, hk1, hk2⟩ := hk
        exact w_24 hx hb hK hP hI (ok_head (ok_tail hS')) (ok_head hS').int hk0 hk1 hk2 (K ad ls H locs (fun _ _ => rfl) hP hD hS hLr)
      · cases h
    · cases h
  · -- 28
    split at h
    · rename_i x i k st0
      split at h
      · rename_i hk
        simp only [Option.some.injEq, Prod.mk.injEq] at h
        obtain ⟨rfl, rfl, rfl, rfl, rfl⟩ := h
        obtain ⟨hk0, hk1, hk2⟩ := hk
        exact w_28 hx hb hK hP hD hS hI (ok_head (ok_tail (ok_tail hS'))) (ok_head (ok_tail hS')).int hk0 hk1 hk2 (fun H1 locs1 p1 p2 p3 => K ad ls H1 locs1 (fun _ _ => rfl) p1 p2 p3 hLr)
      · cases h
    · cases h
  · -- 29
    split at h
    · rename_i x i k st0
      split at h
      · rename_i hk
        simp only [Option.some.injEq, Prod.mk.injEq] at h
        obtain ⟨rfl, rfl, rfl, rfl, rfl⟩ := h
        obtain ⟨hk0, hk1, hk2⟩ := hk
        exact w_29 hx hb hK hP hD hS hI (ok_head (ok_tail (ok_tail hS'))) (ok_head (ok_tail hS')).int hk0 hk1 hk2 (fun H1 locs1 p1 p2 p3 => K ad ls H1 locs1 (fun _ _ => rfl) p1 p2 p3 hLr)
      · cases h
    · cases h
  · -- 30
    split at h
    · rename_i x i k st0
      split at h
      · rename_i hk
        simp only [Option.some.injEq, Prod.mk.injEq] at h
        obtain ⟨rfl, rfl, rfl, rfl, rfl⟩ := h
        obtain ⟨hk0, hk1, hk2⟩ := hk
        exact w_30 hx hb hK hP hD hS hI (ok_head (ok_tail (ok_tail hS'))) (ok_head (ok_tail hS')).int hk0 hk1 hk2 (fun H1 locs1 p1 p2 p3 => K ad ls H1 locs1 (fun _ _ => rfl) p1 p2 p3 hLr)
      · cases h
    · cases h
  · -- 31
    split at h
    · rename_i t' x i t k st0
      split at h
      · rename_i hk
        simp only [Option.some.injEq, Prod.mk.injEq] at h
        obtain ⟨rfl, rfl, rfl, rfl, rfl⟩ := h
        obtain ⟨rfl, rfl, hk1, hk2, hk3, hk4⟩ := hk
        exact w_31 hx hb hK hP hD hS hI (ok_head (ok_tail (ok_tail hS'))) (ok_head hS') (ok_head (ok_tail hS')).int hk2 hk1 hk3 hk4 (fun H1 locs1 p1 p2 p3 => K ad ls H1 locs1 (fun _ _ => rfl) p1 p2 p3 hLr)
      · cases h
    · cases h
  · -- 32
    split at h
    · rename_i k st0
      split at h
      · rename_i hk
        simp only [Option.some.injEq, Prod.mk.injEq] at h
        obtain ⟨rfl, rfl, rfl, rfl, rfl⟩ := h
        exact w_32 hx hb hK hP hM.1 hI (ok_head hS') hk (K ad ls H locs (fun _ _ => rfl) hP hD hS hLr)
      · cases h
    · cases h
  · -- 33
    split at h
    · rename_i hk
      simp only [Option.some.injEq, Prod.mk.injEq] at h
      obtain ⟨rfl, rfl, rfl, rfl, rfl⟩ := h
      have hk : shF n = 10 + a := hk
      have ha : a < 13 := by simp only [okI, Bool.and_eq_true, decide_eq_true_eq] at hI; exact hI.2
      have hcz : csz n = nfF a := by
        unfold csz
        rw [if_pos (by omega), hk, Nat.add_sub_cancel_left]
      have e1 : ssM (n + 1) = ssM n + nfF a := by rw [ssM, hcz]
      have e2 := ss_mono hn0
      have e3 := ss_mono hN
      refine w_33 hx hb hown hts hK hP hD hS hM hA hI hk (by omega) (by omega) (fun q H1 p1 p2 p3 => ?_)
      have k := K (upA ad n q) ls H1 locs (fun k hk => upA_lt hk) p1 p2 p3 (hLr.ad (n := n) hL (fun k hk => upA_lt hk))
      rw [List.map_cons, cn_ads hS' (fun k hk => upA_lt hk), cn_r (by omega) (by omega), Int.toNat_natCast, upA_n] at k
      exact W.cs (by omega) (by omega) k
    · cases h
  · -- 34
    split at h
    · rename_i x st0
      split at h
      · rename_i hk
        simp only [Option.some.injEq, Prod.mk.injEq] at h
        obtain ⟨rfl, rfl, rfl, rfl, rfl⟩ := h
        obtain ⟨hk1, hk2, hk3, hk4⟩ := hk
        have hk1 : shF n = a := hk1
        have hk2 : lnF n = x := hk2
        have ha : 50 ≤ a := by
          simp only [okI, Bool.and_eq_true] at hI
          have hI := hI.1
          split at hI
          · omega
          · omega
          · omega
          · cases hI
        have hcz : csz n = x.toNat := by
          unfold csz
          rw [if_neg (by omega), hk2]
        have e1 : ssM (n + 1) = ssM n + x.toNat := by rw [ssM, hcz]
        have e2 := ss_mono hn0
        have e3 := ss_mono hN
        refine w_34 hx hb hown hts hK hP hD hS hM hA hI hk1 hk2 hk3 hk4 (by omega) (by omega) (fun q H1 p1 p2 p3 => ?_)
        have k := K (upA ad n q) ls H1 locs (fun k hk => upA_lt hk) p1 p2 p3 (hLr.ad (n := n) hL (fun k hk => upA_lt hk))
        rw [List.map_cons, cn_ads (ok_tail hS') (fun k hk => upA_lt hk), cn_r (by omega) (by omega), Int.toNat_natCast, upA_n] at k
        exact W.cs (by omega) (by omega) k
      · cases h
    · cases h
  · -- 35
    split at h
    · rename_i x st0
      split at h
      · rename_i hk
        simp only [Option.some.injEq, Prod.mk.injEq] at h
        obtain ⟨rfl, rfl, rfl, rfl, rfl⟩ := h
        obtain ⟨hk1, hk2, hk3, hk4⟩ := hk
        have hk1 : shF n = a := hk1
        have hk2 : lnF n = x := hk2
        have ha : 53 ≤ a := by
          simp only [okI, Bool.and_eq_true, Bool.or_eq_true, decide_eq_true_eq] at hI
          rcases hI.2 with q | q <;> omega
        have hcz : csz n = x.toNat := by
          unfold csz
          rw [if_neg (by omega), hk2]
        have e1 : ssM (n + 1) = ssM n + x.toNat := by rw [ssM, hcz]
        have e2 := ss_mono hn0
        have e3 := ss_mono hN
        refine w_35 hx hb hown hts hK hP hD hS hM hA ho1 ho2 hI hk1 hk2 hk3 hk4 (by omega) (by omega) (fun q H1 p1 p2 p3 => ?_)
        have k := K (upA ad n q) ls H1 locs (fun k hk => upA_lt hk) p1 p2 p3 (hLr.ad (n := n) hL (fun k hk => upA_lt hk))
        rw [List.map_cons, cn_ads (ok_tail hS') (fun k hk => upA_lt hk), cn_r (by omega) (by omega), Int.toNat_natCast, upA_n] at k
        exact W.cs (by omega) (by omega) k
      · cases h
    · cases h
  · -- 37
    split at h
    · rename_i t k st0
      split at h
      · rename_i hk
        simp only [Option.some.injEq, Prod.mk.injEq] at h
        obtain ⟨rfl, rfl, rfl, rfl, rfl⟩ := h
        rw [List.map_cons, cn_r hk.1 hk.2.1]
        exact w_37 hx hb hown hts hsz (by omega) (by omega) hI (by rw [cn_sum]; exact hk.2.2) (K ad ls H locs (fun _ _ => rfl) hP hD hS hLr)
      · cases h
    · cases h
  · -- 43
    simp only [Option.some.injEq, Prod.mk.injEq] at h
    obtain ⟨rfl, rfl, rfl, rfl, rfl⟩ := h
    simp only [okI, Bool.and_eq_true, decide_eq_true_eq] at hI
    obtain ⟨⟨h1, rfl⟩, h2⟩ := hI
    obtain ⟨e, he, h3⟩ := List.any_eq_true.mp h2
    simp only [decide_eq_true_eq] at h3
    have q := hSt e he
    rw [h3.1, h3.2.1] at q
    have k := K ad ls H locs (fun _ _ => rfl) hP hD hS hLr
    rw [List.map_cons, cn_s, show v.toNat = e.2.2 by omega] at k
    exact va_ldcS hx hb hown q (isI_d h1) k
  · -- 44
    split at h
    · rename_i k st0
      split at h
      · rename_i hk
        simp only [Option.some.injEq, Prod.mk.injEq] at h
        obtain ⟨rfl, rfl, rfl, rfl, rfl⟩ := h
        have q := (ok_head hS').str
        exact h44 hx hb hown hts hStr hS hsz (by omega) (by omega) (hcs (Nat.le_refl _) hN) (by have := ss_mono hN; omega) hI q.1 q.2 (by rw [cn_sum]; exact hk) (K ad ls H locs (fun _ _ => rfl) hP hD hS hLr)
      · cases h
    · cases h
  · -- 45
    split at h
    · rename_i i k st0
      split at h
      · rename_i hk
        simp only [Option.some.injEq, Prod.mk.injEq] at h
        obtain ⟨rfl, rfl, rfl, rfl, rfl⟩ := h
        have q := (ok_head (ok_tail hS')).str
        exact h45 hx hb hown hts hStr hS hsz (by omega) (by omega) (hcs (Nat.le_refl _) hN) (by have := ss_mono hN; omega) hI q.1 q.2 hk.1 hk.2.1 (by rw [cn_sum]; exact hk.2.2) (K ad ls H locs (fun _ _ => rfl) hP hD hS hLr)
      · cases h
    · cases h
  · -- 46
    split at h
    · rename_i cn dp k2 sp k1 st0
      split at h
      · rename_i hk
        simp only [Option.some.injEq, Prod.mk.injEq] at h
        obtain ⟨rfl, rfl, rfl, rfl, rfl⟩ := h
        obtain ⟨c1, c2, c3, c4, c5, c6, c7, c8, c9⟩ := hk
        exact w_46 hx hb hown hts hK hP hD hS hsz (by omega) (by omega) hI (by rw [cn_sum]; exact c9) (ok_head (ok_tail (ok_tail (ok_tail (ok_tail hS'))))) (ok_head (ok_tail (ok_tail hS'))) c1 c2 (ok_head (ok_tail (ok_tail (ok_tail hS')))).int (ok_head (ok_tail hS')).int (ok_head hS').int c4 c5 c6 c7 c8 (fun H1 locs1 p1 p2 p3 => K ad ls H1 locs1 (fun _ _ => rfl) p1 p2 p3 hLr)
      · cases h
    · cases h
  · -- 47
    split at h
    · rename_i i w st0
      split at h
      · rename_i hk
        simp only [Option.some.injEq, Prod.mk.injEq] at h
        obtain ⟨rfl, rfl, rfl, rfl, rfl⟩ := h
        simp only [okI, Bool.and_eq_true, decide_eq_true_eq] at hI
        obtain ⟨h1, rfl⟩ := hI
        obtain ⟨x1, x2, x3, -⟩ := hsc (h179 (Or.inl rfl))
        have hi := (ok_head hS').int
        refine va_sld hx hb x1 x2 x3 hS (i := Int32.ofInt i) (vin hi hk.1 (k := xs (-1)) (by rw [← hxs]; exact hk.2) rfl) (isI_d h1) ?_
        have k := K ad ls H locs (fun _ _ => rfl) hP hD hS hLr
        rw [List.map_cons, cn_i, hxs] at k
        rw [nc32 hi, show ((i.toNat : Nat) : Int) = i by omega]
        exact k
      · cases h
    · cases h
  · -- 48
    split at h
    · rename_i w st0
      simp only [Option.some.injEq, Prod.mk.injEq] at h
      obtain ⟨rfl, rfl, rfl, rfl, rfl⟩ := h
      simp only [okI, Bool.and_eq_true, decide_eq_true_eq] at hI
      obtain ⟨h1, rfl⟩ := hI
      obtain ⟨x1, x2, x3, hx0⟩ := hsc (h179 (Or.inr rfl))
      refine va_slen hx hb x1 x2 x3 hS (isI_d h1) ?_
      have k := K ad ls H locs (fun _ _ => rfl) hP hD hS hLr
      rw [List.map_cons, cn_i, hxs] at k
      rw [← Int32.ofInt_eq_ofNat, show (((xs (-1)).toNat : Nat) : Int) = xs (-1) by omega]
      exact k
    · cases h
  · -- 49
    split at h
    · rename_i y x st0
      split at h
      · rename_i hk
        simp only [Option.some.injEq, Prod.mk.injEq] at h
        obtain ⟨rfl, rfl, rfl, rfl, rfl⟩ := h
        exact w_49 hx hb hown hts hsz (by omega) (by omega) (hcs (Nat.le_refl _) hN) (by have := ss_mono hN; omega) hI (by rw [cn_sum]; exact hk) (ok_head (ok_tail hS')).int (ok_head hS').int (K ad ls H locs (fun _ _ => rfl) hP hD hS hLr)
      · cases h
    · cases h
  · cases h
end STW
