/-! making cells, switches, and the rest -/
def upA (ad : Nat → Nat) (n q : Nat) : Nat → Nat := fun k => if k = n then q else ad k
theorem upA_n (ad : Nat → Nat) (n q : Nat) : upA ad n q n = q := if_pos rfl
theorem upA_lt {ad : Nat → Nat} {n q k : Nat} (h : k < n) : upA ad n q k = ad k := if_neg (by omega)
theorem mk_ne {σ : Mem} {k a b : Int} {f : Int → Int} (h : ¬ a = k) : mkM σ k f a b = σ a b := if_neg h
theorem mk_eq {σ : Mem} {k b : Int} {f : Int → Int} : mkM σ k f k b = f b := if_pos rfl
theorem lk_rng (x : Int) : ∀ (ts : List (Int × Nat)) (lo : Int), ts.map (fun q => q.1) = (List.range ts.length).map (fun (j : Nat) => lo + (j : Int)) → ts.lookup x = if lo ≤ x ∧ x < lo + ts.length then (ts[(x - lo).toNat]?).map (fun q => q.2) else none
  | [], lo, _ => by
    rw [if_neg (by simp only [List.length_nil]; omega)]
    rfl
  | (k, t) :: r, lo, h => by
    rw [List.length_cons, List.range_succ_eq_map, List.map_cons, List.map_cons, List.map_map] at h
    simp only [List.cons.injEq] at h
    obtain ⟨h1, h2⟩ := h
    have ih := lk_rng x r (lo + 1) (by
      rw [h2]
      apply List.map_congr_left
      intro j _
      simp only [Function.comp]
      omega)
    rw [List.lookup_cons]
    by_cases hx : x = k
    · have hb : (x == k) = true := by rw [hx]; exact beq_self_eq_true k
      rw [hb]
      simp only
      rw [if_pos (by rw [List.length_cons]; omega)]
      have hz : (x - lo).toNat = 0 := by omega
      rw [hz]
      rfl
    · have hb : (x == k) = false := beq_eq_false_iff_ne.mpr hx
      rw [hb]
      simp only
      rw [ih, List.length_cons]
      by_cases hr : lo + 1 ≤ x ∧ x < lo + 1 + r.length
      · rw [if_pos hr, if_pos (by omega)]
        have hz : (x - lo).toNat = (x - (lo + 1)).toNat + 1 := by omega
        rw [hz, List.getElem?_cons_succ]
      · rw [if_neg hr, if_neg (by omega)]
theorem lk_off (x : Int) (a pc : Nat) : ∀ (ts : List (Int × Nat)), lookupswitch.offset (ts.map (fun q => (q.1, (q.2 : Int) - pc))) ((a : Int) - pc) x = (((ts.lookup x).getD a : Nat) : Int) - pc
  | [] => rfl
  | (k, t) :: r => by
    rw [List.map_cons, lookupswitch.offset_cons, List.lookup_cons, lk_off x a pc r]
    by_cases hx : x = k
    · have hb : (x == k) = true := by rw [hx]; exact beq_self_eq_true k
      rw [hb, if_pos hx.symm]
      rfl
    · have hb : (x == k) = false := beq_eq_false_iff_ne.mpr hx
      rw [hb, if_neg (fun q => hx q.symm)]
theorem enc_cp {ad : Nat → Nat} {C5 : Nat → ClassId} {k1 k2 : Nat} {σ : Mem} {sp dp c : Int} (h2 : shF k2 = 50) (h0 : 0 ≤ sp) (h1 : 0 ≤ dp) (hc : 0 ≤ c) : encC ad C5 (cpM σ k1 sp k2 dp c) k2 = .inl (C5 50, (lnF k2).toNat, .inl (va_cpy (fun (j : Nat) => Int32.ofInt (σ k1 j)) (fun (j : Nat) => Int32.ofInt (σ k2 j)) sp.toNat dp.toNat c.toNat)) := by
  rw [enc_arr h2 (by omega) (by omega)]
  simp only [Sum.inl.injEq, Prod.mk.injEq, true_and]
  funext j
  unfold va_cpy cpM
  by_cases hj : dp ≤ j ∧ (j : Int) < dp + c
  · rw [if_pos ⟨rfl, hj.1, hj.2⟩, if_pos (by omega)]
    congr 2
    omega
  · rw [if_neg (fun q => hj q.2), if_neg (by omega)]
section WSV
variable {p : Program} {l : Launch} {e : Env} {R : Room} {s : State} {mid : MethodId} {args : Array Value} {below : List Frame} {meth : Method} {c : Code} {H : Heap} {locs : List Loc} {cells slots : Nat} {Q : State → Prop} {m pc nx a b : Nat} {v : Int} {ts : List (Int × Nat)} {ls : Array Slot} {rest : List Value}
variable {D : va_G} {C5 : Nat → ClassId} {ad adK : Nat → Nat} {b0 n : Nat} {σ : Mem} {A : Nat → Prop}
theorem w_19 (hx : p.tables.exec = Jvm.exec) (hb : c.code = mcF m) {x : Int} (ok : okI m pc (19, nx, a, b, v, ts) = true) (h0 : in32 x) (k : W p l e R s mid args below meth c H locs cells slots Q (F0 mid ((ts.lookup x).getD a) ls (rest))) : W p l e R s mid args below meth c H locs cells slots Q (F0 mid pc ls (.int (Int32.ofInt x) :: rest)) := by
  simp only [okI] at ok
  split at ok
  · split at ok
    · rename_i lo t0 r
      simp only [Bool.and_eq_true, decide_eq_true_eq] at ok
      obtain ⟨h1, h2⟩ := ok
      have h1 := isI_d h1
      have hl := lk_rng x ((lo, t0) :: r) lo h2
      have hlen : (((lo, t0) :: r).length : Int) = r.length + 1 := by simp
      by_cases hin : lo ≤ x ∧ x < lo + ((lo, t0) :: r).length
      · rw [if_pos hin] at hl
        have hj : (x - lo).toNat < ((lo, t0) :: r).length := by omega
        obtain ⟨q, hq⟩ : ∃ q, ((lo, t0) :: r)[(x - lo).toNat]? = some q := ⟨_, List.getElem?_eq_getElem hj⟩
        rw [hq] at hl
        rw [hl] at k
        refine lv_tableIn hx hb h1 (tgt := q.2) (off := (q.2 : Int) - pc) (by rw [o32 h0]; omega) (by rw [o32 h0]; omega) ?_ (by omega) k
        rw [o32 h0, List.getElem?_toArray, List.getElem?_map, hq]
        rfl
      · rw [if_neg hin] at hl
        rw [hl] at k
        exact lv_tableOut hx hb h1 (tgt := a) (by rw [o32 h0]; omega) (by omega) k
    · cases ok
  · simp only [Bool.and_eq_true, decide_eq_true_eq] at ok
    obtain ⟨h1, h2⟩ := ok
    refine lv_lookup hx hb (isI_d h1) h2 (off := (((ts.lookup x).getD a : Nat) : Int) - pc) (tgt := (ts.lookup x).getD a) ?_ (by omega) k
    rw [o32 h0]
    exact lk_off x a pc ts
theorem w_33 (hx : p.tables.exec = Jvm.exec) (hb : c.code = mcF m) (hown : s.vm.findClass (ownF (moF m)) = some mid.cls) (hts : ∀ w ∈ gtbl, w.before args s = true) (hK : va_K D cl13 (tysM C5) s) (hP : va_P D cl13 (wsM ad C5 n σ) H) (hD : va_D A (wsM ad C5 n σ)) (hS : va_S A s.heap H locs) (hM : okM n σ) (hA : ∀ q, s.heap.size ≤ q → A q) (ok : okI m pc (33, nx, a, b, v, ts) = true) (hsh : shF n = 10 + a) (hcells : cells + 1 ≤ R.cells) (hslots : slots + nfF a ≤ R.slots) (kk : ∀ (q : Nat) (H1 : Heap), va_P D cl13 (wsM (upA ad n q) C5 (n + 1) (mkM σ n (dfl a ftF))) H1 → va_D A (wsM (upA ad n q) C5 (n + 1) (mkM σ n (dfl a ftF))) → va_S A s.heap H1 locs → W p l e R s mid args below meth c H1 locs (cells + 1) (slots + nfF a) Q (F0 mid nx ls (.ref q :: rest))) : W p l e R s mid args below meth c H locs cells slots Q (F0 mid pc ls (rest)) := by
  simp only [okI, Bool.and_eq_true, decide_eq_true_eq] at ok
  obtain ⟨⟨⟨h1, rfl⟩, h2⟩, ha⟩ := ok
  obtain ⟨e, he, h3⟩ := List.any_eq_true.mp h2
  simp only [decide_eq_true_eq] at h3
  have hl := cl_ok e he
  rw [h3.1, h3.2.1, h3.2.2] at hl
  obtain ⟨c1, c2, c3⟩ := cw_ok a ha
  obtain ⟨i1, i2⟩ := ui_ok a ha
  have hslots' : slots + (clF a).2.2 ≤ R.slots := by rw [c2]; exact hslots
  refine va_new (c0 := c) (own := ownF (moF m)) (C := (clF a).1) (T := (clF a).2.1) (N := (clF a).2.2) (ci := a) (index := v.toNat) (fs := (List.range (nfF a)).map (fun (j : Nat) => fldV ad (ftF a j) (dfl a ftF j))) hx hb hts (uw_in ha) (tyF a) c3 hown (by rw [c1]; exact hts _ (gt_of hl rfl)) (by rw [c1, c2]; exact hts _ (List.mem_filter.mpr ⟨i1, rfl⟩)) (by rw [c1]; exact hts _ (List.mem_filter.mpr ⟨i2, rfl⟩)) hK hP hD hS hA (cx_ok a ha) ?_ hcells hslots' (isI_d h1) (fun q H1 p1 p2 p3 => ?_)
  · intro j hj
    rw [c2] at hj
    have e1 : vp_V ((List.range (nfF a)).map (fun (j : Nat) => fldV ad (ftF a j) (dfl a ftF j))) j = fldV ad (ftF a j) (dfl a ftF j) := by
      unfold vp_V
      rw [List.getD_eq_getElem?_getD, List.getElem?_map, List.getElem?_range hj]
      rfl
    rw [e1]
    obtain ⟨t1, t2, t3⟩ := ty_of ha hj
    unfold fldV dfl
    rw [Int.toNat_natCast]
    by_cases h10 : 10 ≤ ftF a j
    · rw [if_pos h10, if_pos h10]
      rcases t3 h10 with ⟨z, hz⟩ | ⟨z, hz⟩ <;> rw [hz] <;> rfl
    · rw [if_neg h10, if_neg h10]
      have q := ft_ok a ha j hj
      have h07 : ftF a j = 0 ∨ ftF a j = 7 := by
        unfold kTy at q
        split at q
        · left; assumption
        · right; assumption
        all_goals first | omega | (simp only [decide_eq_true_eq] at q; omega)
      rcases h07 with z | z
      · rw [t1 z]; rfl
      · rw [t2 z]; rfl
  · have hpush : wsM ad C5 n σ ++ [(q, .inr (a, (List.range (nfF a)).map (fun (j : Nat) => fldV ad (ftF a j) (dfl a ftF j))))] = wsM (upA ad n q) C5 (n + 1) (mkM σ n (dfl a ftF)) := by
      refine ws_push (upA_n ad n q) (fun k hk => upA_lt hk) ?_ (fun k hk => enc_ad hM hk (fun k hk => upA_lt hk) (fun x => mk_ne (by omega)))
      rw [enc_obj hsh ha]
      congr 2
      apply List.map_congr_left
      intro j _
      rw [mk_eq]
      unfold fldV dfl
      rw [Int.toNat_natCast]
      split
      · rfl
      · rfl
    rw [hpush] at p1 p2
    have k1 := kk q H1 p1 p2 p3
    rw [← c2] at k1
    exact k1
theorem w_34 (hx : p.tables.exec = Jvm.exec) (hb : c.code = mcF m) (hown : s.vm.findClass (ownF (moF m)) = some mid.cls) (hts : ∀ w ∈ gtbl, w.before args s = true) (hK : va_K D cl13 (tysM C5) s) (hP : va_P D cl13 (wsM ad C5 n σ) H) (hD : va_D A (wsM ad C5 n σ)) (hS : va_S A s.heap H locs) (hM : okM n σ) (hA : ∀ q, s.heap.size ≤ q → A q) {x : Int} (ok : okI m pc (34, nx, a, b, v, ts) = true) (hsh : shF n = a) (hln : lnF n = x) (x0 : 0 ≤ x) (x1 : x ≤ 1000) (hcells : cells + 1 ≤ R.cells) (hslots : slots + x.toNat ≤ R.slots) (kk : ∀ (q : Nat) (H1 : Heap), va_P D cl13 (wsM (upA ad n q) C5 (n + 1) (mkM σ n (fun _ => 0))) H1 → va_D A (wsM (upA ad n q) C5 (n + 1) (mkM σ n (fun _ => 0))) → va_S A s.heap H1 locs → W p l e R s mid args below meth c H1 locs (cells + 1) (slots + x.toNat) Q (F0 mid nx ls (.ref q :: rest))) : W p l e R s mid args below meth c H locs cells slots Q (F0 mid pc ls (.int (Int32.ofInt x) :: rest)) := by
  have x32 : in32 x := by unfold in32; omega
  have hn0 : ¬ Int32.ofInt x < 0 := by
    rw [show (0 : Int32) = Int32.ofInt 0 from rfl, lt32 x32 z32]
    omega
  have hpush : ∀ (q : Nat) (cA : ClassId), cA = C5 a → 50 ≤ a → a < 53 → wsM ad C5 n σ ++ [(q, .inl (cA, x.toNat, .inl (fun _ => 0)))] = wsM (upA ad n q) C5 (n + 1) (mkM σ n (fun _ => 0)) := by
    intro q cA hc ha1 ha2
    refine ws_push (upA_n ad n q) (fun k hk => upA_lt hk) ?_ (fun k hk => enc_ad hM hk (fun k hk => upA_lt hk) (fun x => mk_ne (by omega)))
    rw [enc_arr hsh ha1 ha2, hc, hln]
    simp only [Sum.inl.injEq, Prod.mk.injEq, true_and]
    funext j
    rw [mk_eq]
    rfl
  have hac := ow_ok.2.2
  simp only [okI, Bool.and_eq_true, decide_eq_true_eq] at ok
  obtain ⟨ok, rfl⟩ := ok
  split at ok
  · refine va_newa (atype := .int) (ty := .int) (a0 := (x.toNat, .inl (fun _ => 0))) hx hb (hts _ (List.mem_filter.mpr ⟨hac.1, rfl⟩)) rfl hK hP hD hS hA (fun cA => rfl) hn0 (nc32 x32) (by show x.toNat * 4 ≤ _; omega) hcells hslots (isI_d ok) (fun q cA H1 k1 p1 p2 p3 => ?_)
    have r1 : s.vm.findClass ("[" ++ FieldType.int.toString) = some (C5 50) := (hK.2 0 _ rfl).2
    have r2 : s.vm.findClass ("[" ++ FieldType.int.toString) = some cA := (k1.2 5 (cA, .int) rfl).2
    rw [hpush q cA (Option.some.inj (r2.symm.trans r1)) (by omega) (by omega)] at p1 p2
    exact kk q H1 p1 p2 p3
  · refine va_newa (atype := .byte) (ty := .byte) (a0 := (x.toNat, .inl (fun _ => 0))) hx hb (hts _ (List.mem_filter.mpr ⟨hac.2.1, rfl⟩)) rfl hK hP hD hS hA (fun cA => rfl) hn0 (nc32 x32) (by show x.toNat * 1 ≤ _; omega) hcells hslots (isI_d ok) (fun q cA H1 k1 p1 p2 p3 => ?_)
    have r1 : s.vm.findClass ("[" ++ FieldType.byte.toString) = some (C5 51) := (hK.2 1 _ rfl).2
    have r2 : s.vm.findClass ("[" ++ FieldType.byte.toString) = some cA := (k1.2 5 (cA, .byte) rfl).2
    rw [hpush q cA (Option.some.inj (r2.symm.trans r1)) (by omega) (by omega)] at p1 p2
    exact kk q H1 p1 p2 p3
  · refine va_newa (atype := .boolean) (ty := .boolean) (a0 := (x.toNat, .inl (fun _ => 0))) hx hb (hts _ (List.mem_filter.mpr ⟨hac.2.2.1, rfl⟩)) rfl hK hP hD hS hA (fun cA => rfl) hn0 (nc32 x32) (by show x.toNat * 1 ≤ _; omega) hcells hslots (isI_d ok) (fun q cA H1 k1 p1 p2 p3 => ?_)
    have r1 : s.vm.findClass ("[" ++ FieldType.boolean.toString) = some (C5 52) := (hK.2 2 _ rfl).2
    have r2 : s.vm.findClass ("[" ++ FieldType.boolean.toString) = some cA := (k1.2 5 (cA, .boolean) rfl).2
    rw [hpush q cA (Option.some.inj (r2.symm.trans r1)) (by omega) (by omega)] at p1 p2
    exact kk q H1 p1 p2 p3
  · cases ok
theorem w_35 (hx : p.tables.exec = Jvm.exec) (hb : c.code = mcF m) (hown : s.vm.findClass (ownF (moF m)) = some mid.cls) (hts : ∀ w ∈ gtbl, w.before args s = true) (hK : va_K D cl13 (tysM C5) s) (hP : va_P D cl13 (wsM ad C5 n σ) H) (hD : va_D A (wsM ad C5 n σ)) (hS : va_S A s.heap H locs) (hM : okM n σ) (hA : ∀ q, s.heap.size ≤ q → A q) (ho1 : va_AO RX3 s) (ho2 : va_AO RX9 s) {x : Int} (ok : okI m pc (35, nx, a, b, v, ts) = true) (hsh : shF n = a) (hln : lnF n = x) (x0 : 0 ≤ x) (x1 : x ≤ 1000) (hcells : cells + 1 ≤ R.cells) (hslots : slots + x.toNat ≤ R.slots) (kk : ∀ (q : Nat) (H1 : Heap), va_P D cl13 (wsM (upA ad n q) C5 (n + 1) (mkM σ n (fun _ => -1))) H1 → va_D A (wsM (upA ad n q) C5 (n + 1) (mkM σ n (fun _ => -1))) → va_S A s.heap H1 locs → W p l e R s mid args below meth c H1 locs (cells + 1) (slots + x.toNat) Q (F0 mid nx ls (.ref q :: rest))) : W p l e R s mid args below meth c H locs cells slots Q (F0 mid pc ls (.int (Int32.ofInt x) :: rest)) := by
  have x32 : in32 x := by unfold in32; omega
  have hn0 : ¬ Int32.ofInt x < 0 := by
    rw [show (0 : Int32) = Int32.ofInt 0 from rfl, lt32 x32 z32]
    omega
  have hpush : ∀ (q : Nat) (cA : ClassId), cA = C5 a → 53 ≤ a → wsM ad C5 n σ ++ [(q, .inl (cA, x.toNat, .inr (.inr (.inr (.inr (fun _ => none))))))] = wsM (upA ad n q) C5 (n + 1) (mkM σ n (fun _ => -1)) := by
    intro q cA hc ha1
    refine ws_push (upA_n ad n q) (fun k hk => upA_lt hk) ?_ (fun k hk => enc_ad hM hk (fun k hk => upA_lt hk) (fun x => mk_ne (by omega)))
    rw [enc_rar hsh ha1, hc, hln]
    simp only [Sum.inl.injEq, Prod.mk.injEq, Sum.inr.injEq, true_and]
    funext j
    rw [mk_eq, if_neg (by omega)]
  simp only [okI, Bool.and_eq_true, Bool.or_eq_true, decide_eq_true_eq] at ok
  obtain ⟨⟨h1, rfl⟩, h2⟩ := ok
  rcases h2 with ⟨rfl, h2⟩ | ⟨rfl, h2⟩
  · obtain ⟨e, he, h3⟩ := List.any_eq_true.mp h2
    simp only [decide_eq_true_eq] at h3
    have hl := cl_ok e he
    rw [h3.1, h3.2.1, h3.2.2] at hl
    refine va_newq (C := RX3) hx hb hown (hts _ (gt_of hl rfl)) ho1 hK hP hD hS hA hn0 (nc32 x32) (by omega) hcells hslots (isI_d h1) (fun q cA H1 k1 p1 p2 p3 => ?_)
    obtain ⟨_, _, _, _, _, r1⟩ := (hK.2 3 _ rfl).2
    obtain ⟨_, _, _, _, _, r2⟩ := (k1.2 5 (cA, .object RX3) rfl).2
    rw [hpush q cA (Option.some.inj (r2.symm.trans r1)) (by omega)] at p1 p2
    exact kk q H1 p1 p2 p3
  · obtain ⟨e, he, h3⟩ := List.any_eq_true.mp h2
    simp only [decide_eq_true_eq] at h3
    have hl := cl_ok e he
    rw [h3.1, h3.2.1, h3.2.2] at hl
    refine va_newq (C := RX9) hx hb hown (hts _ (gt_of hl rfl)) ho2 hK hP hD hS hA hn0 (nc32 x32) (by omega) hcells hslots (isI_d h1) (fun q cA H1 k1 p1 p2 p3 => ?_)
    obtain ⟨_, _, _, _, _, r1⟩ := (hK.2 4 _ rfl).2
    obtain ⟨_, _, _, _, _, r2⟩ := (k1.2 5 (cA, .object RX9) rfl).2
    rw [hpush q cA (Option.some.inj (r2.symm.trans r1)) (by omega)] at p1 p2
    exact kk q H1 p1 p2 p3
theorem w_37 (hx : p.tables.exec = Jvm.exec) (hb : c.code = mcF m) (hown : s.vm.findClass (ownF (moF m)) = some mid.cls) (hts : ∀ w ∈ gtbl, w.before args s = true) (hsz : ls.size = c.maxLocals) (hfr : 4 ≤ R.frames) (hlo : 100 ≤ R.locals) {k : Nat} (ok : okI m pc (37, nx, a, b, v, ts) = true) (hsum : (rest.map fun v => v.category).sum ≤ 8) (kk : W p l e R s mid args below meth c H locs cells slots Q (F0 mid nx ls (rest))) : W p l e R s mid args below meth c H locs cells slots Q (F0 mid pc ls (.ref k :: rest)) := by
  simp only [okI, Bool.and_eq_true, decide_eq_true_eq] at ok
  obtain ⟨⟨h1, rfl⟩, h2⟩ := ok
  obtain ⟨e, he, h3⟩ := List.any_eq_true.mp h2
  simp only [decide_eq_true_eq] at h3
  have hl := ob_ok e he
  rw [h3.1, h3.2] at hl
  have hr := lv_room (m := mid) (pc := pc) (ls := ls) (rest := .ref k :: rest) (st := rest) hsum
  exact W.objInit hx hb hown (hts _ (gt_of hl rfl)) (hts _ (List.mem_filter.mpr ⟨ow_ok.1, rfl⟩)) (hts _ (List.mem_filter.mpr ⟨ow_ok.2.1, rfl⟩)) rfl hsz rfl (isI_d h1) (by omega) (by omega) kk
theorem w_46 (hx : p.tables.exec = Jvm.exec) (hb : c.code = mcF m) (hown : s.vm.findClass (ownF (moF m)) = some mid.cls) (hts : ∀ w ∈ gtbl, w.before args s = true) (hK : va_K D cl13 (tysM C5) s) (hP : va_P D cl13 (wsM ad C5 n σ) H) (hD : va_D A (wsM ad C5 n σ)) (hS : va_S A s.heap H locs) (hsz : ls.size = c.maxLocals) (hfr : 4 ≤ R.frames) (hlo : 100 ≤ R.locals) {k1 k2 sp dp cn : Int} (ok : okI m pc (46, nx, a, b, v, ts) = true) (hsum : (rest.map fun v => v.category).sum ≤ 8) (hk1 : okV n (50, k1)) (hk2 : okV n (50, k2)) (g1 : 0 ≤ k1) (g2 : 0 ≤ k2) (hsp : in32 sp) (hdp : in32 dp) (hcn : in32 cn) (c0 : 0 ≤ cn) (s0 : 0 ≤ sp) (d0 : 0 ≤ dp) (sl : sp + cn ≤ lnF k1) (dl : dp + cn ≤ lnF k2) (kk : ∀ (H1 : Heap) (locs1 : List Loc), va_P D cl13 (wsM ad C5 n (cpM σ k1 sp k2 dp cn)) H1 → va_D A (wsM ad C5 n (cpM σ k1 sp k2 dp cn)) → va_S A s.heap H1 locs1 → W p l e R s mid args below meth c H1 locs1 cells slots Q (F0 mid nx ls (rest))) : W p l e R s mid args below meth c H locs cells slots Q (F0 mid pc ls (.int (Int32.ofInt cn) :: .int (Int32.ofInt dp) :: cnV ad adK b0 (50, k2) :: .int (Int32.ofInt sp) :: cnV ad adK b0 (50, k1) :: rest)) := by
  simp only [okI, Bool.and_eq_true, decide_eq_true_eq] at ok
  obtain ⟨⟨h1, rfl⟩, h2⟩ := ok
  obtain ⟨e, he, h3⟩ := List.any_eq_true.mp h2
  simp only [decide_eq_true_eq] at h3
  have hl := ac_ok e he
  rw [h3.1, h3.2] at hl
  obtain ⟨z1, z2, z3⟩ := okR_sh (hk1.ref (by omega)) g1
  obtain ⟨y1, y2, y3⟩ := okR_sh (hk2.ref (by omega)) g2
  rw [cn_r (by omega) g1, cn_r (by omega) g2]
  have nn : ∀ z : Int, in32 z → 0 ≤ z → ¬ Int32.ofInt z < 0 := by
    intro z hz h0
    rw [show (0 : Int32) = Int32.ofInt 0 from rfl, lt32 hz z32]
    omega
  have hac := ow_ok.2.2.2.2.2
  refine va_copyi (ty := .int) hx hb hsz.symm hown (hts _ (gt_of hl rfl)) (hts _ (List.mem_filter.mpr ⟨hac.1, rfl⟩)) (hts _ (List.mem_filter.mpr ⟨hac.2.1, rfl⟩)) (hts _ (List.mem_filter.mpr ⟨hac.2.2, rfl⟩)) hK hP hD hS k1.toNat k2.toNat 0 0 (ws_get z1 |>.trans (by rw [enc_arr z2 (by omega) (by omega)])) (ws_get y1 |>.trans (by rw [enc_arr y2 (by omega) (by omega)])) rfl rfl rfl (nn sp hsp s0) (nn dp hdp d0) (nn cn hcn c0) (by rw [nc32 hsp, nc32 hcn, z3]; omega) (by rw [nc32 hdp, nc32 hcn, y3]; omega) (fun i _ => rfl) (by omega) ?_ (isI_d h1) (fun H1 locs1 p1 p2 p3 => ?_)
  · have : nativeFrameWords "java/lang/System" "arraycopy" 5 = 7 := by decide +kernel
    omega
  · rw [nc32 hsp, nc32 hdp, nc32 hcn, ← enc_cp (ad := ad) (C5 := C5) (k1 := k1.toNat) (k2 := k2.toNat) (σ := σ) (sp := sp) (dp := dp) (c := cn) y2 s0 d0 c0, ws_set y1 rfl (fun k' hk' hne y => if_neg (fun q => by omega)), z3, y3] at p1 p2
    exact kk H1 locs1 p1 p2 p3
theorem w_49 (hx : p.tables.exec = Jvm.exec) (hb : c.code = mcF m) (hown : s.vm.findClass (ownF (moF m)) = some mid.cls) (hts : ∀ w ∈ gtbl, w.before args s = true) (hsz : ls.size = c.maxLocals) (hfr : 4 ≤ R.frames) (hlo : 100 ≤ R.locals) (hc : cells ≤ R.cells) (hs : slots ≤ R.slots) {x y : Int} (ok : okI m pc (49, nx, a, b, v, ts) = true) (hsum : (rest.map fun v => v.category).sum ≤ 8) (h0 : in32 x) (h1 : in32 y) (kk : W p l e R s mid args below meth c H locs cells slots Q (F0 mid nx ls (.int (Int32.ofInt (if b = 0 then (if x < y then y else x) else (if y < x then y else x))) :: rest))) : W p l e R s mid args below meth c H locs cells slots Q (F0 mid pc ls (.int (Int32.ofInt y) :: .int (Int32.ofInt x) :: rest)) := by
  simp only [okI, Bool.and_eq_true, Bool.or_eq_true, decide_eq_true_eq] at ok
  obtain ⟨⟨h4, rfl⟩, h2⟩ := ok
  obtain ⟨w1, w2, w3, w4, w5⟩ := mw_ok
  rcases h2 with ⟨rfl, h2⟩ | ⟨rfl, h2⟩
  · obtain ⟨e, he, h3⟩ := List.any_eq_true.mp h2
    simp only [decide_eq_true_eq] at h3
    have hl := mx_ok e he
    rw [h3.1, h3.2] at hl
    refine va_mmax hx hb hsz.symm hown (hts _ (gt_of hl rfl)) (hts _ (List.mem_filter.mpr ⟨w1, rfl⟩)) (hts _ (List.mem_filter.mpr ⟨w3, rfl⟩)) (hts _ (List.mem_filter.mpr ⟨w4, rfl⟩)) (by omega) (by omega) hc hs (isI_d h4) ?_
    rw [if_pos rfl] at kk
    by_cases hq : x < y
    · rw [if_pos ((lt32 h0 h1).mpr hq)]
      rwa [if_pos hq] at kk
    · rw [if_neg (fun z => hq ((lt32 h0 h1).mp z))]
      rwa [if_neg hq] at kk
  · obtain ⟨e, he, h3⟩ := List.any_eq_true.mp h2
    simp only [decide_eq_true_eq] at h3
    have hl := mn_ok e he
    rw [h3.1, h3.2] at hl
    refine va_mmin hx hb hsz.symm hown (hts _ (gt_of hl rfl)) (hts _ (List.mem_filter.mpr ⟨w2, rfl⟩)) (hts _ (List.mem_filter.mpr ⟨w3, rfl⟩)) (hts _ (List.mem_filter.mpr ⟨w5, rfl⟩)) (by omega) (by omega) hc hs (isI_d h4) ?_
    rw [if_neg (by omega)] at kk
    by_cases hq : y < x
    · rw [if_pos ((lt32 h1 h0).mpr hq)]
      rwa [if_pos hq] at kk
    · rw [if_neg (fun z => hq ((lt32 h1 h0).mp z))]
      rwa [if_neg hq] at kk
end WSV
