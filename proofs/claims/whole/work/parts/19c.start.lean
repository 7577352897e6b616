/-! the law's entry: a run of the small machine from there is the claim's walk -/
def scM (L : Nat) (xs : Nat → Int32) : Mem := fun a b => if a = -2 then (if b = -1 then (L : Int) else if 0 ≤ b ∧ b < L then (xs b.toNat).toInt else 0) else 0
def tmS (i : Nat) : Term := Term.string "HearingDesk$Tape" ((stL.getD i (0, 0, 0)).2.1)
def flN : List Cond := flatC (Jvm.Cond.and given_1 narrow_1)
set_option maxRecDepth 100000 in
theorem fs1 : ∀ i, i < 7 → Cond.exactly (tmS i) "java/lang/String" ∈ flN ∧ Cond.eq (.field (tmS i) "java/lang/String" "coder" "B") (.int 0) ∈ flN ∧ Cond.arrayOf (.field (tmS i) "java/lang/String" "value" "[B") .byte ∈ flN ∧ Cond.eq (.length (.field (tmS i) "java/lang/String" "value" "[B")) (.int (Int32.ofNat (lenS.getD i 0))) ∈ flN ∧ lenS.getD i 0 < 2 ^ 31 := by decide +kernel
set_option maxRecDepth 100000 in
theorem fs2 : ∀ i, i < 7 → ∀ j, j < lenS.getD i 0 → Cond.eq (.elem (.field (tmS i) "java/lang/String" "value" "[B") (.int (Int32.ofNat j))) (.int ((bytS.getD i []).getD j 0)) ∈ flN := by decide +kernel
set_option maxRecDepth 100000 in
theorem fs3 : ∀ i, i < 7 → ∀ j, j < 7 → i ≠ j → Cond.not (Cond.eq (tmS i) (tmS j)) ∈ flN ∨ Cond.not (Cond.eq (tmS j) (tmS i)) ∈ flN := by decide +kernel
set_option maxRecDepth 100000 in
theorem fs4 : Cond.eq (.static "java/lang/String" "COMPACT_STRINGS" "Z") (.int 1) ∈ flN ∧ Cond.isRef (.static "jdk/internal/util/Preconditions" "SIOOBE_FORMATTER" "Ljava/util/function/BiFunction;") ∈ flN := by decide +kernel
set_option maxRecDepth 100000 in
theorem fs5 : (∀ e ∈ stL, Cond.stringRef (ownF e.1) e.2.1 (stxF e.2.2) ∈ lw_tbl ∧ e.2.2 < 7 ∧ tmS e.2.2 = Term.string (ownF e.1) e.2.1) ∧ (∀ w ∈ nstW, w ∈ lw_tbl ∧ w.onTables = true) ∧ Cond.arrayOver (.object RX3) ∈ lw_tbl ∧ Cond.arrayOver (.object RX9) ∈ lw_tbl ∧ Cond.laysStatic "java/lang/String" "COMPACT_STRINGS" "Z" ∈ lw_tbl ∧ Cond.initialized "java/lang/String" ∈ lw_tbl ∧ Cond.laysStatic "jdk/internal/util/Preconditions" "SIOOBE_FORMATTER" "Ljava/util/function/BiFunction;" ∈ lw_tbl ∧ Cond.initialized "jdk/internal/util/Preconditions" ∈ lw_tbl := by decide +kernel
set_option maxRecDepth 100000 in
theorem ss138 : ssM 138 ≤ 7302250 := by decide +kernel
theorem arr_K {args : Array Value} {s : State} {ty : FieldType} (hno : ∀ C, ¬ ty = .object C) (h : (Cond.arrayClass ty).before args s = true) : ∃ cA, ArrOfT s cA ty ∧ va_RA s cA ty := by
  obtain ⟨cA, kA, comp, h1, h2, h3⟩ := Cond.arrayClass_spec h
  refine ⟨cA, fun n z => ⟨fun k h => (by cases h), kA, h2, comp, h3⟩, ?_⟩
  cases ty with
  | object C => exact absurd rfl (hno C)
  | _ => exact h1
theorem arr_O {args : Array Value} {s : State} {C : String} (h : (Cond.arrayOver (.object C)).before args s = true) : ∃ cA, ArrOfT s cA (.object C) ∧ va_RA s cA (.object C) := by
  obtain ⟨comp, cA, kA, h1, h2, h3, h4, h5⟩ := Cond.arrayOver_spec h
  exact ⟨cA, fun n z => ⟨fun k h => (by cases h), kA, h3, comp, h4⟩, kA, comp, h3, h4, h1, h5⟩
theorem start_K {args : Array Value} {s : State} (hts : ∀ w ∈ lw_tbl, w.before args s = true) : ∃ (D : va_G) (C5 : Nat → ClassId), va_K D cl13 (tysM C5) s := by
  have hk : ∀ c : Nat, ∃ q : ClassId × (Nat → Nat), c < 13 → u_Kn s (clF c).1 (clF c).2.1 (clF c).2.2 q.1 q.2 := by
    intro c
    by_cases hc : c < 13
    · obtain ⟨cC, iS, h⟩ := u_known (C := (clF c).1) (T := (clF c).2.1) (N := (clF c).2.2) (n := nfF c) hts (fun w hw => gt_tbl (uw_in hc w hw)) (by rw [(cw_ok c hc).1]; exact hts _ (ui_ok c hc).1)
      exact ⟨(cC, iS), fun _ => h⟩
    · exact ⟨(0, fun _ => 0), fun h => absurd h hc⟩
  obtain ⟨f, hf⟩ := Classical.axiomOfChoice hk
  obtain ⟨aI, hI1, hI2⟩ := arr_K (ty := .int) (fun _ h => by cases h) (hts _ ow_ok.2.2.1)
  obtain ⟨aB, hB1, hB2⟩ := arr_K (ty := .byte) (fun _ h => by cases h) (hts _ ow_ok.2.2.2.1)
  obtain ⟨aZ, hZ1, hZ2⟩ := arr_K (ty := .boolean) (fun _ h => by cases h) (hts _ ow_ok.2.2.2.2.1)
  obtain ⟨aH, hH1, hH2⟩ := arr_O (hts _ fs5.2.2.1)
  obtain ⟨aT, hT1, hT2⟩ := arr_O (hts _ fs5.2.2.2.1)
  refine ⟨(fun c => (f c).1, fun c => (f c).2), fun t => if t = 50 then aI else if t = 51 then aB else if t = 52 then aZ else if t = 53 then aH else aT, ?_, ?_⟩
  · intro c q hq
    have hc : c < 13 := (List.getElem?_eq_some_iff.mp hq).1
    have e := (cx_ok c hc).symm.trans hq
    cases e
    exact hf c hc
  · intro k q hq
    match k, hq with
    | 0, hq => cases hq; exact ⟨hI1, hI2⟩
    | 1, hq => cases hq; exact ⟨hB1, hB2⟩
    | 2, hq => cases hq; exact ⟨hZ1, hZ2⟩
    | 3, hq => cases hq; exact ⟨hH1, hH2⟩
    | 4, hq => cases hq; exact ⟨hT1, hT2⟩
    | k + 5, hq => simp [tysM] at hq
theorem start_S {args : Array Value} {s : State} (hts : ∀ w ∈ lw_tbl, w.before args s = true) (hgv : (Jvm.Cond.and given_1 narrow_1).before args s = true) : ∃ (adK adV : Nat → Nat), StrU adK adV (fun q => s.heap.size ≤ q) s s.heap ∧ ∀ e ∈ stL, vk_R (ownF e.1) e.2.1 (stxF e.2.2) (adK e.2.2) s := by
  have hfl : ∀ c ∈ flN, c.before args s = true := flat_of_before _ hgv
  have hA : ∀ a : Nat, a < s.heap.size → ¬ (fun q : Nat => s.heap.size ≤ q) a := fun a h q => absurd q (Nat.not_le.mpr h)
  obtain ⟨adK, adV, h1, h2⟩ := vk_Sof (N := 7) (tm := tmS) (len := lenS) (byt := bytS) (A := fun q => s.heap.size ≤ q) (fun i hi => (fs1 i hi).2.2.2.2) (fun i hi => hfl _ (fs1 i hi).1) (fun i hi => hfl _ (fs1 i hi).2.1) (fun i hi => hfl _ (fs1 i hi).2.2.1) (fun i hi => hfl _ (fs1 i hi).2.2.2.1) (fun i hi j hj => hfl _ (fs2 i hi j hj)) (fun i j hi hj hne => (fs3 i hi j hj hne).imp (hfl _) (hfl _)) hA
  refine ⟨adK, adV, ⟨h1, va_Zof (hts _ fs5.2.2.2.2.1) (hts _ fs5.2.2.2.2.2.1) (va_eqi (hfl _ fs4.1)) hA, va_Zqof (hts _ fs5.2.2.2.2.2.2.1) (hts _ fs5.2.2.2.2.2.2.2) (hfl _ fs4.2) hA⟩, fun e he => ?_⟩
  obtain ⟨q1, q2, q3⟩ := fs5.1 e he
  have h3 := h2 e.2.2 q2
  rw [q3] at h3
  exact vk_R.of (hts _ q1) h3
set_option maxRecDepth 100000 in
theorem mc179 : mcF 179 = code := rfl
/-- the claim's walk, from a run of the small machine -/
theorem start_W (hEV : ∀ (L : Nat) (xs : Nat → Int32), L ≤ 4096 → EV 20 179 0 [(5, 0), (9, 0), (9, 0), (9, 0)] [] (scM L xs) 0 (fun r _ _ => r = some (0, 1))) {p : Program} {e : Env} {s : State} {m : MethodId} {below : List Frame} {meth : Method} {c : Code} (l : Launch) {b L : Nat} {xs : Nat → Int32} {Q : State → Prop} (hL : L ≤ 4096) (hx : p.tables.exec = Jvm.exec) (hb : c.code = code) (hml : c.maxLocals = 4) (hown : s.vm.findClass "HearingDeskLaw" = some m.cls) (hts : ∀ w ∈ lw_tbl, w.before #[Value.ref b] s = true) (hX : va_X b L xs s s.heap) (hbl : b < s.heap.size) (hgv : (Jvm.Cond.and given_1 narrow_1).before #[Value.ref b] s = true)
    (hret : ∀ (pc : Nat) (ls : Array Slot) (H : Heap), decode code pc = .ok (.ireturn, 1) → W p l e room_1 s m #[Value.ref b] below meth c H [] 600000 7302250 Q (F0 m pc ls [.int 1])) : W p l e room_1 s m #[Value.ref b] below meth c s.heap [] 0 0 Q (entryFrame m ([Value.ref b] : List Value).toArray 4) := by
  obtain ⟨f, r, σ', n', hrun, hr⟩ := hEV L xs hL
  subst hr
  obtain ⟨D, C5, hK⟩ := start_K hts
  obtain ⟨adK, adV, hStr, hvk⟩ := start_S hts hgv
  have hsc : ∀ j : Int, scM L xs (-2) j = (if j = -1 then (L : Int) else if 0 ≤ j ∧ j < L then (xs j.toNat).toInt else 0) := fun j => if_pos rfl
  have hM : okM 0 (scM L xs) := by
    refine ⟨by omega, fun j => ?_, fun k hk => absurd hk (Nat.not_lt_zero k)⟩
    rw [hsc]
    split
    · unfold in32; omega
    · split
      · exact t32 _
      · exact z32
  have ha : ∀ x ∈ ([(5, 0)] : List AV), okV 0 x := fun x hx => by
    rw [List.mem_singleton.mp hx]
    exact Or.inr (Or.inr (Or.inr (Or.inl rfl)))
  have h2 : ∀ x ∈ ([(5, 0)] : List AV), ¬ x.1 = 2 := fun x hx => by
    rw [List.mem_singleton.mp hx]
    simp
  have hC : okC 179 0 (entM 4 [(5, 0)]) [] (scM L xs) := ent_ok hM ha h2 4
  obtain ⟨z1, -, -, -⟩ := run_ok f 20 179 0 _ [] _ 0 _ σ' n' hrun hC
  have hX2 : CxM p room_1 s m #[Value.ref b] meth c D C5 adK adV b (fun q => s.heap.size ≤ q) 20 179 (fun j => scM L xs (-2) j) := by
    refine ⟨hx, by rw [mc179]; exact hb, hml, hown, fun w hw => hts w (gt_tbl hw), ⟨hK, fun w hw => va_Nw.of (fs5.2.1 w hw).2 (hts w (fs5.2.1 w hw).1), va_AO.of (hts _ fs5.2.2.1), va_AO.of (hts _ fs5.2.2.2.1), hvk⟩, hStr, fun _ h => h, fun q => absurd q (by decide), Nat.le_of_ble_eq_true rfl, Nat.le_of_ble_eq_true rfl, fun _ => ⟨?_, hbl, Nat.not_le.mpr hbl, ?_⟩⟩
    · have e1 : (scM L xs (-2) (-1)).toNat = L := by rw [hsc, if_pos rfl]; omega
      obtain ⟨scr, g1, g2, g3, g4, g5⟩ := hX
      refine ⟨scr, g1, g2, g3, by rw [e1]; exact g4, fun j hj => ?_⟩
      rw [e1] at hj
      rw [g5 j hj]
      show some (Value.int (xs j)) = some (Value.int (Int32.ofInt (scM L xs (-2) j)))
      rw [hsc, if_neg (by omega), if_pos (by omega), Int.toNat_natCast, r32]
    · show 0 ≤ scM L xs (-2) (-1)
      rw [hsc, if_pos rfl]
      omega
  have hw := snd_W s44 s45 f 20 179 0 _ [] _ 0 _ σ' n' hrun hC (l := l) (e := e) (below := below) (Q := Q) (H := s.heap) (locs := []) (ad := fun _ => 0) (ls := ((lg_sl ([(5, 0)].map (cnV (fun _ => 0) adK b)) ++ List.replicate (4 - (lg_sl ([(5, 0)].map (cnV (fun _ => 0) adK b))).length) Slot.unset).toArray)) 0 hX2 (Nat.le_refl _) (by have := z1.1; show n' - 0 ≤ 600000; omega) (by have := ss_mono z1.1; have := ss138; show ssM n' - ssM 0 ≤ 7302250; omega) (fun _ => rfl) (fun k q h => by simp [wsM] at h) ⟨fun i j p q h => by simp [wsM] at h, fun k q h => by simp [wsM] at h⟩ va_S.rf (ent_Lr (as := [(5, 0)]) (nL := 4) (by decide) h2) ?_
  · rw [lg_entry_eq]
    exact hw
  · intro op nx a b' v ts pc ls H locs ad' hI hre _ p1 p2 p3
    have hd : decode code pc = .ok (.ireturn, 1) := by
      unfold retM at hre
      split at hre
      · cases hre
      · simp only [okI, Bool.and_eq_true] at hI
        rw [← mc179]
        exact isI_d hI.1
      · simp only [okI, Bool.and_eq_true] at hI
        rw [← mc179]
        exact isI_d hI.1
      · cases hre
      · simp at hre
      · cases hre
    refine va_forget (fun q hq => p3.2.2 q hq) ?_
    refine W.widen (k := 600000) (n := 7302250) (by have := z1.1; omega) (by have := ss_mono z1.1; have := ss138; omega) ?_
    exact hret pc ls H hd
