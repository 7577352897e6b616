/-! fields and arrays -/
def tysM (C5 : Nat → ClassId) : List (ClassId × FieldType) := [(C5 50, .int), (C5 51, .byte), (C5 52, .boolean), (C5 53, .object RX3), (C5 54, .object RX9)]
theorem fld_cn {ad adK : Nat → Nat} {b0 a b : Nat} (ha : a < 13) (hb : b < nfF a) (x : Int) : fldV ad (ftF a b) x = cnV ad adK b0 (if ftF a b = 7 then 0 else ftF a b, x) := by
  have q := ft_ok a ha b hb
  by_cases h10 : 10 ≤ ftF a b
  · rw [if_neg (by omega)]
    unfold fldV
    rw [if_pos h10]
    by_cases hx : x < 0
    · rw [if_pos hx, cn_n h10 hx]
    · rw [if_neg hx, cn_r h10 (by omega)]
  · have h0 : (if ftF a b = 7 then 0 else ftF a b) = 0 := by
      split
      · rfl
      · rename_i h7
        unfold kTy at q
        split at q
        · assumption
        all_goals first | omega | (simp only [decide_eq_true_eq] at q; omega)
    rw [h0]
    unfold fldV
    rw [if_neg h10]
    rfl
theorem ty_of {a b : Nat} (ha : a < 13) (hb : b < nfF a) : (ftF a b = 0 → tyF a b = .int) ∧ (ftF a b = 7 → tyF a b = .boolean) ∧ (10 ≤ ftF a b → (∃ t, tyF a b = .object t) ∨ ∃ t, tyF a b = .array t) := by
  have q := ft_ok a ha b hb
  unfold kTy at q
  split at q
  all_goals (simp only [decide_eq_true_eq] at q)
  · exact ⟨fun _ => q, fun h => by omega, fun h => by omega⟩
  · exact ⟨fun h => by omega, fun _ => q, fun h => by omega⟩
  · exact ⟨fun h => by omega, fun h => by omega, fun _ => Or.inr ⟨_, q⟩⟩
  · exact ⟨fun h => by omega, fun h => by omega, fun _ => Or.inr ⟨_, q⟩⟩
  · exact ⟨fun h => by omega, fun h => by omega, fun _ => Or.inr ⟨_, q⟩⟩
  · exact ⟨fun h => by omega, fun h => by omega, fun _ => Or.inr ⟨_, q⟩⟩
  · exact ⟨fun h => by omega, fun h => by omega, fun _ => Or.inr ⟨_, q⟩⟩
  · exact ⟨fun h => by omega, fun h => by omega, fun _ => Or.inl ⟨_, q.2.2⟩⟩
theorem uw_in {a : Nat} (ha : a < 13) : ∀ w ∈ u_ws (clF a).1 (clF a).2.1 (clF a).2.2, w ∈ gtbl := by
  intro w hw
  have q := List.all_eq_true.mp (uw_ok a ha) w hw
  simp only [Bool.and_eq_true, decide_eq_true_eq] at q
  exact List.mem_filter.mpr q
/-- a reference's value in a field fits it -/
theorem fit_r {ad adK : Nat → Nat} {b0 t : Nat} {x : Int} {ty : FieldType} (ht : 10 ≤ t) (h : (∃ z, ty = .object z) ∨ ∃ z, ty = .array z) : narrow ty (cnV ad adK b0 (t, x)) = cnV ad adK b0 (t, x) ∧ fits ty (cnV ad adK b0 (t, x)) = true := by
  by_cases hx : x < 0
  · rw [cn_n ht hx]
    rcases h with ⟨z, rfl⟩ | ⟨z, rfl⟩ <;> exact ⟨rfl, rfl⟩
  · rw [cn_r ht (by omega)]
    rcases h with ⟨z, rfl⟩ | ⟨z, rfl⟩ <;> exact ⟨rfl, rfl⟩
section WSU
variable {p : Program} {l : Launch} {e : Env} {R : Room} {s : State} {mid : MethodId} {args : Array Value} {below : List Frame} {meth : Method} {c : Code} {H : Heap} {locs : List Loc} {cells slots : Nat} {Q : State → Prop} {m pc nx a b : Nat} {v : Int} {ts : List (Int × Nat)} {ls : Array Slot} {rest : List Value}
variable {D : va_G} {C5 : Nat → ClassId} {ad adK : Nat → Nat} {b0 n : Nat} {σ : Mem} {A : Nat → Prop}
theorem w_21 (hx : p.tables.exec = Jvm.exec) (hb : c.code = mcF m) (hown : s.vm.findClass (ownF (moF m)) = some mid.cls) (hts : ∀ w ∈ gtbl, w.before args s = true) (hK : va_K D cl13 (tysM C5) s) (hP : va_P D cl13 (wsM ad C5 n σ) H) {k : Int} (ok : okI m pc (21, nx, a, b, v, ts) = true) (hk : okV n (10 + a, k)) (h0 : 0 ≤ k) (kk : W p l e R s mid args below meth c H locs cells slots Q (F0 mid nx ls (cnV ad adK b0 (if ftF a b = 7 then 0 else ftF a b, σ k b) :: rest))) : W p l e R s mid args below meth c H locs cells slots Q (F0 mid pc ls (cnV ad adK b0 (10 + a, k) :: rest)) := by
  simp only [okI, Bool.and_eq_true, decide_eq_true_eq] at ok
  obtain ⟨⟨h1, rfl⟩, h2⟩ := ok
  obtain ⟨⟨i, hl⟩, hb', ha⟩ := fl_any h2
  obtain ⟨z1, z2, z3⟩ := okR_sh (hk.ref (by omega)) h0
  rw [cn_r (by omega) h0]
  obtain ⟨c1, c2, c3⟩ := cw_ok a ha
  have he : (wsM ad C5 n σ)[k.toNat]? = some (ad k.toNat, .inr (a, (List.range (nfF a)).map (fun (j : Nat) => fldV ad (ftF a j) (σ k.toNat j)))) := by rw [ws_get z1, enc_obj z2 ha]
  refine va_get (own := ownF (moF m)) (ref := ((clF a).2.1 b).1) (C := (clF a).1) (T := (clF a).2.1) (N := (clF a).2.2) (ci := a) (index := v.toNat) hx hb hts (uw_in ha) hown hK hP k.toNat he (cx_ok a ha) b (by rw [c2]; exact hb') (hts _ (gt_of hl rfl)) (fun _ h => h) (v := fldV ad (ftF a b) (σ k.toNat b)) ?_ (isI_d h1) ?_
  · rw [List.getElem?_map, List.getElem?_range hb']
    rfl
  · rw [z3, fld_cn (adK := adK) (b0 := b0) ha hb']
    exact kk
theorem w_22 (hx : p.tables.exec = Jvm.exec) (hb : c.code = mcF m) (hown : s.vm.findClass (ownF (moF m)) = some mid.cls) (hts : ∀ w ∈ gtbl, w.before args s = true) (hK : va_K D cl13 (tysM C5) s) (hP : va_P D cl13 (wsM ad C5 n σ) H) (hD : va_D A (wsM ad C5 n σ)) (hS : va_S A s.heap H locs) (hin : (pwF m).2.2.2.2 = 2 → meth.name = "<init>") {k x : Int} (ok : okI m pc (22, nx, a, b, v, ts) = true) (hk : okV n (10 + a, k)) (h0 : 0 ≤ k) (kk : ∀ (H1 : Heap) (locs1 : List Loc), va_P D cl13 (wsM ad C5 n (wrM σ k b x)) H1 → va_D A (wsM ad C5 n (wrM σ k b x)) → va_S A s.heap H1 locs1 → W p l e R s mid args below meth c H1 locs1 cells slots Q (F0 mid nx ls (rest))) : W p l e R s mid args below meth c H locs cells slots Q (F0 mid pc ls (cnV ad adK b0 (ftF a b, x) :: cnV ad adK b0 (10 + a, k) :: rest)) := by
  simp only [okI, Bool.and_eq_true, Bool.or_eq_true, decide_eq_true_eq] at ok
  obtain ⟨⟨⟨⟨h1, rfl⟩, h2⟩, h7⟩, hf⟩ := ok
  obtain ⟨⟨i, hl⟩, hb', ha⟩ := fl_any h2
  obtain ⟨z1, z2, z3⟩ := okR_sh (hk.ref (by omega)) h0
  rw [cn_r (t := 10 + a) (by omega) h0]
  obtain ⟨c1, c2, c3⟩ := cw_ok a ha
  have he : (wsM ad C5 n σ)[k.toNat]? = some (ad k.toNat, .inr (a, (List.range (nfF a)).map (fun (j : Nat) => fldV ad (ftF a j) (σ k.toNat j)))) := by rw [ws_get z1, enc_obj z2 ha]
  have hv : cnV ad adK b0 (ftF a b, x) = fldV ad (ftF a b) x := by rw [fld_cn (adK := adK) (b0 := b0) ha hb', if_neg h7]
  have hfit : narrow (tyF a b) (cnV ad adK b0 (ftF a b, x)) = cnV ad adK b0 (ftF a b, x) ∧ fits (tyF a b) (cnV ad adK b0 (ftF a b, x)) = true := by
    obtain ⟨t1, t2, t3⟩ := ty_of ha hb'
    by_cases h10 : 10 ≤ ftF a b
    · exact fit_r h10 (t3 h10)
    · have h0 : ftF a b = 0 := by
        have q := ft_ok a ha b hb'
        unfold kTy at q
        split at q
        · assumption
        all_goals first | omega | (simp only [decide_eq_true_eq] at q; omega)
      rw [t1 h0, h0]
      exact ⟨rfl, rfl⟩
  have hset : (wsM ad C5 n σ).set k.toNat (ad k.toNat, .inr (a, ((List.range (nfF a)).map (fun (j : Nat) => fldV ad (ftF a j) (σ k.toNat j))).set b (cnV ad adK b0 (ftF a b, x)))) = wsM ad C5 n (wrM σ k b x) := by
    refine ws_set z1 ?_ (fun k' hk' hne y => wr_ne (by omega))
    rw [hv, show wrM σ k b x = wrM σ ((k.toNat : Nat) : Int) b x by rw [z3]]
    exact enc_put z2 ha
  by_cases hfin : ((clF a).2.1 b).2.2.2 = false
  · refine va_put (own := ownF (moF m)) (ref := ((clF a).2.1 b).1) (C := (clF a).1) (T := (clF a).2.1) (N := (clF a).2.2) (ci := a) (index := v.toNat) hx hb hts (uw_in ha) (tyF a) c3 (nm_ok a ha) hown hK hP hD hS k.toNat he (cx_ok a ha) b (by rw [c2]; exact hb') (hts _ (gt_of hl rfl)) (fun _ h => h) hfin (c3 b (by rw [c2]; exact hb')) hfit.1 hfit.2 (by simpa using hb') (isI_d h1) (fun H1 locs1 p1 p2 p3 => ?_)
    rw [hset] at p1 p2
    exact kk H1 locs1 p1 p2 p3
  · have hf2 : (pwF m).2.2.2.2 = 2 ∧ a = moF m := by
      rcases hf with q | q
      · exact absurd q hfin
      · exact q
    have hdecl : ((clF a).2.1 b).1 = ownF (moF m) := by
      have q : ∀ a, a < 13 → ∀ b, b < nfF a → ((clF a).2.1 b).1 = ownF a := by decide +kernel
      rw [q a ha b hb', ← hf2.2]
    refine va_putF (own := ownF (moF m)) (ref := ((clF a).2.1 b).1) (C := (clF a).1) (T := (clF a).2.1) (N := (clF a).2.2) (ci := a) (index := v.toNat) hx hb hts (uw_in ha) (tyF a) c3 (nm_ok a ha) hown hK hP hD hS k.toNat he (cx_ok a ha) b (by rw [c2]; exact hb') (hts _ (gt_of hl rfl)) (fun _ h => h) (by simpa using hfin) (hin hf2.1) hdecl (c3 b (by rw [c2]; exact hb')) hfit.1 hfit.2 (by simpa using hb') (isI_d h1) (fun H1 locs1 p1 p2 p3 => ?_)
    rw [hset] at p1 p2
    exact kk H1 locs1 p1 p2 p3
theorem w_23 (hx : p.tables.exec = Jvm.exec) (hb : c.code = mcF m) (hown : s.vm.findClass (ownF (moF m)) = some mid.cls) (hts : ∀ w ∈ gtbl, w.before args s = true) (hK : va_K D cl13 (tysM C5) s) (hP : va_P D cl13 (wsM ad C5 n σ) H) (hD : va_D A (wsM ad C5 n σ)) (hS : va_S A s.heap H locs) {k x : Int} (ok : okI m pc (23, nx, a, b, v, ts) = true) (hk : okV n (10 + a, k)) (h0 : 0 ≤ k) (hx01 : x = 0 ∨ x = 1) (kk : ∀ (H1 : Heap) (locs1 : List Loc), va_P D cl13 (wsM ad C5 n (wrM σ k b x)) H1 → va_D A (wsM ad C5 n (wrM σ k b x)) → va_S A s.heap H1 locs1 → W p l e R s mid args below meth c H1 locs1 cells slots Q (F0 mid nx ls (rest))) : W p l e R s mid args below meth c H locs cells slots Q (F0 mid pc ls (cnV ad adK b0 (0, x) :: cnV ad adK b0 (10 + a, k) :: rest)) := by
  simp only [okI, Bool.and_eq_true, Bool.or_eq_true, decide_eq_true_eq] at ok
  obtain ⟨⟨⟨⟨h1, rfl⟩, h2⟩, h7⟩, hfin⟩ := ok
  obtain ⟨⟨i, hl⟩, hb', ha⟩ := fl_any h2
  obtain ⟨z1, z2, z3⟩ := okR_sh (hk.ref (by omega)) h0
  rw [cn_r (t := 10 + a) (by omega) h0]
  obtain ⟨c1, c2, c3⟩ := cw_ok a ha
  have he : (wsM ad C5 n σ)[k.toNat]? = some (ad k.toNat, .inr (a, (List.range (nfF a)).map (fun (j : Nat) => fldV ad (ftF a j) (σ k.toNat j)))) := by rw [ws_get z1, enc_obj z2 ha]
  have hv : cnV ad adK b0 (0, x) = fldV ad (ftF a b) x := by rw [fld_cn (adK := adK) (b0 := b0) ha hb', if_pos h7]
  have hty : tyF a b = .boolean := (ty_of ha hb').2.1 h7
  have hfit : narrow (tyF a b) (cnV ad adK b0 (0, x)) = cnV ad adK b0 (0, x) ∧ fits (tyF a b) (cnV ad adK b0 (0, x)) = true := by
    rw [hty]
    rcases hx01 with rfl | rfl <;> exact ⟨rfl, rfl⟩
  have hset : (wsM ad C5 n σ).set k.toNat (ad k.toNat, .inr (a, ((List.range (nfF a)).map (fun (j : Nat) => fldV ad (ftF a j) (σ k.toNat j))).set b (cnV ad adK b0 (0, x)))) = wsM ad C5 n (wrM σ k b x) := by
    refine ws_set z1 ?_ (fun k' hk' hne y => wr_ne (by omega))
    rw [hv, show wrM σ k b x = wrM σ ((k.toNat : Nat) : Int) b x by rw [z3]]
    exact enc_put z2 ha
  refine va_put (own := ownF (moF m)) (ref := ((clF a).2.1 b).1) (C := (clF a).1) (T := (clF a).2.1) (N := (clF a).2.2) (ci := a) (index := v.toNat) hx hb hts (uw_in ha) (tyF a) c3 (nm_ok a ha) hown hK hP hD hS k.toNat he (cx_ok a ha) b (by rw [c2]; exact hb') (hts _ (gt_of hl rfl)) (fun _ h => h) hfin (c3 b (by rw [c2]; exact hb')) hfit.1 hfit.2 (by simpa using hb') (isI_d h1) (fun H1 locs1 p1 p2 p3 => ?_)
  rw [hset] at p1 p2
  exact kk H1 locs1 p1 p2 p3
theorem w_24 (hx : p.tables.exec = Jvm.exec) (hb : c.code = mcF m) (hK : va_K D cl13 (tysM C5) s) (hP : va_P D cl13 (wsM ad C5 n σ) H) {k i : Int} (ok : okI m pc (24, nx, a, b, v, ts) = true) (hk : okV n (a, k)) (hi : in32 i) (h0 : 0 ≤ k) (i0 : 0 ≤ i) (i1 : i < lnF k) (kk : W p l e R s mid args below meth c H locs cells slots Q (F0 mid nx ls (cnV ad adK b0 (b, σ k i) :: rest))) : W p l e R s mid args below meth c H locs cells slots Q (F0 mid pc ls (.int (Int32.ofInt i) :: cnV ad adK b0 (a, k) :: rest)) := by
  simp only [okI, Bool.and_eq_true, decide_eq_true_eq] at ok
  obtain ⟨ok, rfl⟩ := ok
  have hj : ((i.toNat : Nat) : Int) = i := by omega
  split at ok
  · simp only [Bool.and_eq_true, decide_eq_true_eq] at ok
    obtain ⟨h1, rfl⟩ := ok
    obtain ⟨z1, z2, z3⟩ := okR_sh (hk.ref (by omega)) h0
    rw [cn_r (by omega) h0]
    refine va_iald hx hb hK hP k.toNat 0 (ws_get z1 |>.trans (by rw [enc_arr z2 (by omega) (by omega)])) rfl (vin hi i0 i1 (by rw [z3])) (isI_d h1) ?_
    rw [nc32 hi, z3, hj]
    exact kk
  · simp only [Bool.and_eq_true, decide_eq_true_eq] at ok
    obtain ⟨h1, rfl⟩ := ok
    obtain ⟨z1, z2, z3⟩ := okR_sh (hk.ref (by omega)) h0
    rw [cn_r (by omega) h0]
    refine va_bald hx hb hK hP k.toNat 1 (ws_get z1 |>.trans (by rw [enc_arr z2 (by omega) (by omega)])) rfl (vin hi i0 i1 (by rw [z3])) (isI_d h1) ?_
    rw [nc32 hi, z3, hj]
    exact kk
  · simp only [Bool.and_eq_true, decide_eq_true_eq] at ok
    obtain ⟨h1, rfl⟩ := ok
    obtain ⟨z1, z2, z3⟩ := okR_sh (hk.ref (by omega)) h0
    rw [cn_r (by omega) h0]
    refine va_zald hx hb hK hP k.toNat 2 (ws_get z1 |>.trans (by rw [enc_arr z2 (by omega) (by omega)])) rfl (vin hi i0 i1 (by rw [z3])) (isI_d h1) ?_
    rw [nc32 hi, z3, hj]
    exact kk
  · simp only [Bool.and_eq_true, decide_eq_true_eq] at ok
    obtain ⟨h1, rfl⟩ := ok
    obtain ⟨z1, z2, z3⟩ := okR_sh (hk.ref (by omega)) h0
    rw [cn_r (by omega) h0]
    refine va_aldq hx hb hK hP k.toNat 3 (ws_get z1 |>.trans (by rw [enc_rar z2 (by omega)])) rfl (vin hi i0 i1 (by rw [z3])) (isI_d h1) ?_
    rw [nc32 hi, z3, hj]
    rw [cn_q (by omega)] at kk
    by_cases hs : σ k i < 0
    · rw [if_neg (by omega)]
      rwa [if_pos hs] at kk
    · rw [if_pos ⟨i1, by omega⟩]
      rwa [if_neg hs] at kk
  · simp only [Bool.and_eq_true, decide_eq_true_eq] at ok
    obtain ⟨h1, rfl⟩ := ok
    obtain ⟨z1, z2, z3⟩ := okR_sh (hk.ref (by omega)) h0
    rw [cn_r (by omega) h0]
    refine va_aldq hx hb hK hP k.toNat 4 (ws_get z1 |>.trans (by rw [enc_rar z2 (by omega)])) rfl (vin hi i0 i1 (by rw [z3])) (isI_d h1) ?_
    rw [nc32 hi, z3, hj]
    rw [cn_q (by omega)] at kk
    by_cases hs : σ k i < 0
    · rw [if_neg (by omega)]
      rwa [if_pos hs] at kk
    · rw [if_pos ⟨i1, by omega⟩]
      rwa [if_neg hs] at kk
  · cases ok
theorem w_28 (hx : p.tables.exec = Jvm.exec) (hb : c.code = mcF m) (hK : va_K D cl13 (tysM C5) s) (hP : va_P D cl13 (wsM ad C5 n σ) H) (hD : va_D A (wsM ad C5 n σ)) (hS : va_S A s.heap H locs) {k i x : Int} (ok : okI m pc (28, nx, a, b, v, ts) = true) (hk : okV n (50, k)) (hi : in32 i) (h0 : 0 ≤ k) (i0 : 0 ≤ i) (i1 : i < lnF k) (kk : ∀ (H1 : Heap) (locs1 : List Loc), va_P D cl13 (wsM ad C5 n (wrM σ k i x)) H1 → va_D A (wsM ad C5 n (wrM σ k i x)) → va_S A s.heap H1 locs1 → W p l e R s mid args below meth c H1 locs1 cells slots Q (F0 mid nx ls (rest))) : W p l e R s mid args below meth c H locs cells slots Q (F0 mid pc ls (.int (Int32.ofInt x) :: .int (Int32.ofInt i) :: cnV ad adK b0 (50, k) :: rest)) := by
  simp only [okI, Bool.and_eq_true, decide_eq_true_eq] at ok
  obtain ⟨h1, rfl⟩ := ok
  obtain ⟨z1, z2, z3⟩ := okR_sh (hk.ref (by omega)) h0
  rw [cn_r (by omega) h0]
  refine va_iast hx hb hK hP hD hS k.toNat 0 (ws_get z1 |>.trans (by rw [enc_arr z2 (by omega) (by omega)])) rfl (vin hi i0 i1 (by rw [z3])) (isI_d h1) (fun H1 locs1 p1 p2 p3 => ?_)
  rw [nc32 hi, ← enc_ast (ad := ad) (C5 := C5) (k := k.toNat) (t := 50) (σ := σ) (i := i) z2 (by omega) (by omega) i0, ws_set z1 rfl (fun k' hk' hne y => wr_ne (by omega)), z3] at p1 p2
  exact kk H1 locs1 p1 p2 p3
theorem bn_eq (x : Int) : vp_nar .byte (Int32.ofInt x) = Int32.ofInt (Zbnar x) := by rw [Zbnar, r32]
theorem zn_eq (x : Int) : vp_nar .boolean (Int32.ofInt x) = Int32.ofInt (Zznar x) := by rw [Zznar, r32]
theorem w_29 (hx : p.tables.exec = Jvm.exec) (hb : c.code = mcF m) (hK : va_K D cl13 (tysM C5) s) (hP : va_P D cl13 (wsM ad C5 n σ) H) (hD : va_D A (wsM ad C5 n σ)) (hS : va_S A s.heap H locs) {k i x : Int} (ok : okI m pc (29, nx, a, b, v, ts) = true) (hk : okV n (51, k)) (hi : in32 i) (h0 : 0 ≤ k) (i0 : 0 ≤ i) (i1 : i < lnF k) (kk : ∀ (H1 : Heap) (locs1 : List Loc), va_P D cl13 (wsM ad C5 n (wrM σ k i (Zbnar x))) H1 → va_D A (wsM ad C5 n (wrM σ k i (Zbnar x))) → va_S A s.heap H1 locs1 → W p l e R s mid args below meth c H1 locs1 cells slots Q (F0 mid nx ls (rest))) : W p l e R s mid args below meth c H locs cells slots Q (F0 mid pc ls (.int (Int32.ofInt x) :: .int (Int32.ofInt i) :: cnV ad adK b0 (51, k) :: rest)) := by
  simp only [okI, Bool.and_eq_true, decide_eq_true_eq] at ok
  obtain ⟨h1, rfl⟩ := ok
  obtain ⟨z1, z2, z3⟩ := okR_sh (hk.ref (by omega)) h0
  rw [cn_r (by omega) h0]
  refine va_bast hx hb hK hP hD hS k.toNat 1 (ws_get z1 |>.trans (by rw [enc_arr z2 (by omega) (by omega)])) rfl (vin hi i0 i1 (by rw [z3])) (isI_d h1) (fun H1 locs1 p1 p2 p3 => ?_)
  rw [nc32 hi, bn_eq, ← enc_ast (ad := ad) (C5 := C5) (k := k.toNat) (t := 51) (σ := σ) (i := i) z2 (by omega) (by omega) i0, ws_set z1 rfl (fun k' hk' hne y => wr_ne (by omega)), z3] at p1 p2
  exact kk H1 locs1 p1 p2 p3
theorem w_30 (hx : p.tables.exec = Jvm.exec) (hb : c.code = mcF m) (hK : va_K D cl13 (tysM C5) s) (hP : va_P D cl13 (wsM ad C5 n σ) H) (hD : va_D A (wsM ad C5 n σ)) (hS : va_S A s.heap H locs) {k i x : Int} (ok : okI m pc (30, nx, a, b, v, ts) = true) (hk : okV n (52, k)) (hi : in32 i) (h0 : 0 ≤ k) (i0 : 0 ≤ i) (i1 : i < lnF k) (kk : ∀ (H1 : Heap) (locs1 : List Loc), va_P D cl13 (wsM ad C5 n (wrM σ k i (Zznar x))) H1 → va_D A (wsM ad C5 n (wrM σ k i (Zznar x))) → va_S A s.heap H1 locs1 → W p l e R s mid args below meth c H1 locs1 cells slots Q (F0 mid nx ls (rest))) : W p l e R s mid args below meth c H locs cells slots Q (F0 mid pc ls (.int (Int32.ofInt x) :: .int (Int32.ofInt i) :: cnV ad adK b0 (52, k) :: rest)) := by
  simp only [okI, Bool.and_eq_true, decide_eq_true_eq] at ok
  obtain ⟨h1, rfl⟩ := ok
  obtain ⟨z1, z2, z3⟩ := okR_sh (hk.ref (by omega)) h0
  rw [cn_r (by omega) h0]
  refine va_zast hx hb hK hP hD hS k.toNat 2 (ws_get z1 |>.trans (by rw [enc_arr z2 (by omega) (by omega)])) rfl (vin hi i0 i1 (by rw [z3])) (isI_d h1) (fun H1 locs1 p1 p2 p3 => ?_)
  rw [nc32 hi, zn_eq, ← enc_ast (ad := ad) (C5 := C5) (k := k.toNat) (t := 52) (σ := σ) (i := i) z2 (by omega) (by omega) i0, ws_set z1 rfl (fun k' hk' hne y => wr_ne (by omega)), z3] at p1 p2
  exact kk H1 locs1 p1 p2 p3
theorem w_31 (hx : p.tables.exec = Jvm.exec) (hb : c.code = mcF m) (hK : va_K D cl13 (tysM C5) s) (hP : va_P D cl13 (wsM ad C5 n σ) H) (hD : va_D A (wsM ad C5 n σ)) (hS : va_S A s.heap H locs) {k i x : Int} (ok : okI m pc (31, nx, a, b, v, ts) = true) (hk : okV n (a, k)) (hv : okV n (b, x)) (hi : in32 i) (h0 : 0 ≤ k) (hx0 : 0 ≤ x) (i0 : 0 ≤ i) (i1 : i < lnF k) (kk : ∀ (H1 : Heap) (locs1 : List Loc), va_P D cl13 (wsM ad C5 n (wrM σ k i x)) H1 → va_D A (wsM ad C5 n (wrM σ k i x)) → va_S A s.heap H1 locs1 → W p l e R s mid args below meth c H1 locs1 cells slots Q (F0 mid nx ls (rest))) : W p l e R s mid args below meth c H locs cells slots Q (F0 mid pc ls (cnV ad adK b0 (b, x) :: .int (Int32.ofInt i) :: cnV ad adK b0 (a, k) :: rest)) := by
  simp only [okI, Bool.and_eq_true, Bool.or_eq_true, decide_eq_true_eq] at ok
  obtain ⟨⟨h1, rfl⟩, h2⟩ := ok
  rcases h2 with ⟨rfl, rfl⟩ | ⟨rfl, rfl⟩
  · obtain ⟨z1, z2, z3⟩ := okR_sh (hk.ref (by omega)) h0
    obtain ⟨y1, y2, y3⟩ := okR_sh (hv.ref (by omega)) hx0
    rw [cn_r (t := 53) (by omega) h0, cn_r (t := 13) (by omega) hx0]
    refine va_astq (r := clF 3) hx hb hK hP hD hS k.toNat 3 x.toNat 3 (ws_get z1 |>.trans (by rw [enc_rar z2 (by omega)])) rfl (ws_get y1 |>.trans (by rw [enc_obj (c := 3) y2 (by omega)])) (cx_ok 3 (by omega)) (vin hi i0 i1 (by rw [z3])) (isI_d h1) (fun H1 locs1 p1 p2 p3 => ?_)
    rw [nc32 hi, ← enc_rst (ad := ad) (C5 := C5) (k := k.toNat) (t := 53) (σ := σ) (i := i) (v := x) z2 (by omega) i0 (by rw [z3]; exact i1) hx0, ws_set z1 rfl (fun k' hk' hne y => wr_ne (by omega)), z3] at p1 p2
    exact kk H1 locs1 p1 p2 p3
  · obtain ⟨z1, z2, z3⟩ := okR_sh (hk.ref (by omega)) h0
    obtain ⟨y1, y2, y3⟩ := okR_sh (hv.ref (by omega)) hx0
    rw [cn_r (t := 54) (by omega) h0, cn_r (t := 19) (by omega) hx0]
    refine va_astq (r := clF 9) hx hb hK hP hD hS k.toNat 4 x.toNat 9 (ws_get z1 |>.trans (by rw [enc_rar z2 (by omega)])) rfl (ws_get y1 |>.trans (by rw [enc_obj (c := 9) y2 (by omega)])) (cx_ok 9 (by omega)) (vin hi i0 i1 (by rw [z3])) (isI_d h1) (fun H1 locs1 p1 p2 p3 => ?_)
    rw [nc32 hi, ← enc_rst (ad := ad) (C5 := C5) (k := k.toNat) (t := 54) (σ := σ) (i := i) (v := x) z2 (by omega) i0 (by rw [z3]; exact i1) hx0, ws_set z1 rfl (fun k' hk' hne y => wr_ne (by omega)), z3] at p1 p2
    exact kk H1 locs1 p1 p2 p3
theorem w_32 (hx : p.tables.exec = Jvm.exec) (hb : c.code = mcF m) (hK : va_K D cl13 (tysM C5) s) (hP : va_P D cl13 (wsM ad C5 n σ) H) (hn : n ≤ 138) {k : Int} (ok : okI m pc (32, nx, a, b, v, ts) = true) (hk : okV n (50, k)) (h0 : 0 ≤ k) (kk : W p l e R s mid args below meth c H locs cells slots Q (F0 mid nx ls (.int (Int32.ofInt (lnF k)) :: rest))) : W p l e R s mid args below meth c H locs cells slots Q (F0 mid pc ls (cnV ad adK b0 (50, k) :: rest)) := by
  simp only [okI, Bool.and_eq_true, decide_eq_true_eq] at ok
  obtain ⟨h1, rfl⟩ := ok
  obtain ⟨z1, z2, z3⟩ := okR_sh (hk.ref (by omega)) h0
  rw [cn_r (by omega) h0]
  refine va_alen hx hb hK hP k.toNat 0 (ws_get z1 |>.trans (by rw [enc_arr z2 (by omega) (by omega)])) rfl ?_ (isI_d h1) kk
  have q := sh_ok k.toNat (by omega)
  rw [z2, z3] at q
  show Int32.ofNat (lnF k.toNat).toNat = Int32.ofInt (lnF k)
  rw [z3, ← Int32.ofInt_eq_ofNat]
  congr 1
  omega
end WSU
