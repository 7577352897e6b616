/-! an instruction of the small machine is one of the machine: rows over W -/
theorem isI_d {m pc len : Nat} {i : Instr} (h : isI m pc i len = true) : decode (mcF m) pc = .ok (i, len) := of_decide_eq_true h
theorem i8c {v : Int} (h1 : -128 ≤ v) (h2 : v ≤ 127) : (Int8.ofInt v).toInt32 = Int32.ofInt v := by
  rw [← Int32.toInt_inj, Int8.toInt_toInt32, Int8.toInt_ofInt, o32 (by unfold in32; omega)]
  show v.bmod 256 = v
  exact Int.bmod_eq_of_le (by omega) (by omega)
theorem i16c {v : Int} (h1 : -32768 ≤ v) (h2 : v ≤ 32767) : (Int16.ofInt v).toInt32 = Int32.ofInt v := by
  rw [← Int32.toInt_inj, Int16.toInt_toInt32, Int16.toInt_ofInt, o32 (by unfold in32; omega)]
  show v.bmod 65536 = v
  exact Int.bmod_eq_of_le (by omega) (by omega)
theorem i64c {v : Int} (h : in32 v) : (Int32.ofInt v).toInt64 = Int64.ofInt v := by
  rw [← Int64.toInt_inj, Int32.toInt_toInt64, o32 h, o64 (by unfold in32 at h; unfold in64; omega)]
theorem fin4_v {a : Nat} (h : a < 4) : ((fin4 a : Fin 4) : Nat) = a := Nat.mod_eq_of_lt h
/-- the locals -/
def LrM (ad adK : Nat → Nat) (b0 : Nat) (ls : Array Slot) (nL : Nat) (L : List AV) : Prop := L.length = nL ∧ ls.size = nL ∧ lv_wf ls ∧ ∀ (i : Nat) (x : AV), L[i]? = some x → ¬ x.1 = 9 → ls[i]? = some (.val (cnV ad adK b0 x))
def lvL (ad adK : Nat → Nat) (b0 : Nat) (L : List AV) : List (Nat × Value) := (List.range L.length).filterMap (fun i => match L[i]? with
  | some x => if x.1 = 9 then none else some (i, cnV ad adK b0 x)
  | none => none)
theorem lvL_mem {ad adK : Nat → Nat} {b0 : Nat} {L : List AV} {i : Nat} {x : AV} (h : L[i]? = some x) (h9 : ¬ x.1 = 9) : (i, cnV ad adK b0 x) ∈ lvL ad adK b0 L := by
  unfold lvL
  refine List.mem_filterMap.mpr ⟨i, List.mem_range.mpr (List.getElem?_eq_some_iff.mp h).1, ?_⟩
  rw [h]
  simp only
  rw [if_neg h9]
theorem noL_s {L : List AV} {i : Nat} {y : AV} (hn : noLM L (i + 1) = true) (hy : L[i]? = some y) : ¬ y.1 = 2 := by
  simp only [noLM, hy, decide_eq_true_eq] at hn
  exact hn
theorem LrM.has {ad adK : Nat → Nat} {b0 nL : Nat} {ls : Array Slot} {L : List AV} (h : LrM ad adK b0 ls nL L) : lv_has ls nL (lvL ad adK b0 L) := by
  obtain ⟨h1, h2, h3, h4⟩ := h
  refine ⟨h2, h3, fun q hq => ?_⟩
  obtain ⟨i, hi, he⟩ := List.mem_filterMap.mp hq
  cases hL : L[i]? with
  | none => rw [hL] at he; cases he
  | some x =>
    rw [hL] at he
    simp only at he
    split at he
    · cases he
    · rename_i h9
      cases he
      exact h4 i x hL h9
theorem LrM.of_store {ad adK : Nat → Nat} {b0 nL a : Nat} {ls ls' : Array Slot} {L : List AV} {x : AV} (h : LrM ad adK b0 ls nL L) (hn : noLM L a = true ∨ ∀ y ∈ L, ¬ y.1 = 2) (hc : ¬ x.1 = 2) (h' : lv_has ls' nL ((a, cnV ad adK b0 x) :: (lvL ad adK b0 L).filter (fun q => !(q.1 == a) && !(q.1 + 1 == a && q.2.category == 2)))) : LrM ad adK b0 ls' nL (L.set a x) := by
  obtain ⟨h1, h2, h3, h4⟩ := h
  obtain ⟨g1, g2, g3⟩ := h'
  refine ⟨by rw [List.length_set]; exact h1, g1, g2, fun i y hy h9 => ?_⟩
  rw [List.getElem?_set] at hy
  by_cases hi : a = i
  · subst hi
    rw [if_pos rfl] at hy
    split at hy
    · cases hy
      exact g3 _ List.mem_cons_self
    · cases hy
  · rw [if_neg hi] at hy
    refine g3 (i, cnV ad adK b0 y) (List.mem_cons_of_mem _ (List.mem_filter.mpr ⟨lvL_mem hy h9, ?_⟩))
    simp only [Bool.and_eq_true, Bool.not_eq_true', beq_eq_false_iff_ne, ne_eq, Bool.and_eq_false_iff]
    refine ⟨fun q => hi q.symm, ?_⟩
    by_cases ha : i + 1 = a
    · right
      rw [cn_cat]
      have hy2 : ¬ y.1 = 2 := by
        rcases hn with hn | hn
        · subst ha
          exact noL_s hn hy
        · exact hn y (List.mem_of_getElem? hy)
      unfold catM
      rw [if_neg hy2]
      decide
    · left
      exact ha
theorem LrM.of_store2 {ad adK : Nat → Nat} {b0 nL a : Nat} {ls ls' : Array Slot} {L : List AV} {x : AV} (h : LrM ad adK b0 ls nL L) (hn : noLM L a = true) (h' : lv_has ls' nL ((a, cnV ad adK b0 x) :: (lvL ad adK b0 L).filter (fun q => !(q.1 == a) && (!(q.1 == a + 1) && !(q.1 + 1 == a && q.2.category == 2))))) : LrM ad adK b0 ls' nL ((L.set a x).set (a + 1) (9, 0)) := by
  obtain ⟨h1, h2, h3, h4⟩ := h
  obtain ⟨g1, g2, g3⟩ := h'
  refine ⟨by rw [List.length_set, List.length_set]; exact h1, g1, g2, fun i y hy h9 => ?_⟩
  rw [List.getElem?_set] at hy
  by_cases hj : a + 1 = i
  · rw [if_pos hj] at hy
    split at hy
    · cases hy
      exact absurd rfl h9
    · cases hy
  · rw [if_neg hj, List.getElem?_set] at hy
    by_cases hi : a = i
    · subst hi
      rw [if_pos rfl] at hy
      split at hy
      · cases hy
        exact g3 _ List.mem_cons_self
      · cases hy
    · rw [if_neg hi] at hy
      refine g3 (i, cnV ad adK b0 y) (List.mem_cons_of_mem _ (List.mem_filter.mpr ⟨lvL_mem hy h9, ?_⟩))
      simp only [Bool.and_eq_true, Bool.not_eq_true', beq_eq_false_iff_ne, ne_eq, Bool.and_eq_false_iff]
      refine ⟨fun q => hi q.symm, fun q => hj q.symm, ?_⟩
      by_cases ha : i + 1 = a
      · right
        rw [cn_cat]
        have hy2 : ¬ y.1 = 2 := by
          subst ha
          exact noL_s hn hy
        unfold catM
        rw [if_neg hy2]
        decide
      · left
        exact ha
theorem LrM.ad {ad ad' adK : Nat → Nat} {b0 nL n : Nat} {ls : Array Slot} {L : List AV} (h : LrM ad adK b0 ls nL L) (hL : ∀ x ∈ L, x.1 = 9 ∨ okV n x) (ha : ∀ k, k < n → ad' k = ad k) : LrM ad' adK b0 ls nL L := by
  obtain ⟨h1, h2, h3, h4⟩ := h
  refine ⟨h1, h2, h3, fun i x hx h9 => ?_⟩
  rw [cn_ad ((hL x (List.mem_of_getElem? hx)).resolve_left h9) ha]
  exact h4 i x hx h9
section WST
variable {p : Program} {l : Launch} {e : Env} {R : Room} {s : State} {mid : MethodId} {args : Array Value} {below : List Frame} {meth : Method} {c : Code} {H : Heap} {locs : List Loc} {cells slots : Nat} {Q : State → Prop} {m pc nx a b : Nat} {v : Int} {ts : List (Int × Nat)} {ls : Array Slot} {rest : List Value}
theorem w_0 (hx : p.tables.exec = Jvm.exec) (hb : c.code = mcF m) (hown : s.vm.findClass (ownF (moF m)) = some mid.cls) (hts : ∀ w ∈ gtbl, w.before args s = true) (ok : okI m pc (0, nx, a, b, v, ts) = true) (k : W p l e R s mid args below meth c H locs cells slots Q (F0 mid nx ls (.int (Int32.ofInt v) :: rest))) : W p l e R s mid args below meth c H locs cells slots Q (F0 mid pc ls (rest)) := by
  simp only [okI, Bool.and_eq_true, decide_eq_true_eq] at ok
  obtain ⟨-, ok⟩ := ok
  split at ok
  · simp only [Bool.and_eq_true, decide_eq_true_eq] at ok
    obtain ⟨h1, rfl⟩ := ok
    exact lv_iconst hx hb (isI_d h1) rfl k
  · simp only [Bool.and_eq_true, decide_eq_true_eq] at ok
    obtain ⟨⟨h1, rfl⟩, h2⟩ := ok
    exact lv_bipush hx hb (isI_d h1) (i8c h2.1 h2.2) k
  · simp only [Bool.and_eq_true, decide_eq_true_eq] at ok
    obtain ⟨⟨h1, rfl⟩, h2⟩ := ok
    exact lv_sipush hx hb (isI_d h1) (i16c h2.1 h2.2) k
  · simp only [Bool.and_eq_true, decide_eq_true_eq] at ok
    obtain ⟨⟨h1, rfl⟩, h2⟩ := ok
    obtain ⟨e, he, h3⟩ := List.any_eq_true.mp h2
    simp only [decide_eq_true_eq] at h3
    have q := ci_ok e he
    rw [h3.1, h3.2.1, h3.2.2] at q
    exact lv_ldc hx hb hown (hts _ (gt_of q rfl)) (isI_d h1) k
theorem w_1 (hx : p.tables.exec = Jvm.exec) (hb : c.code = mcF m) (hown : s.vm.findClass (ownF (moF m)) = some mid.cls) (hts : ∀ w ∈ gtbl, w.before args s = true) (ok : okI m pc (1, nx, a, b, v, ts) = true) (k : W p l e R s mid args below meth c H locs cells slots Q (F0 mid nx ls (.long (Int64.ofInt v) :: rest))) : W p l e R s mid args below meth c H locs cells slots Q (F0 mid pc ls (rest)) := by
  simp only [okI] at ok
  split at ok
  · simp only [Bool.and_eq_true, Bool.or_eq_true, decide_eq_true_eq] at ok
    obtain ⟨ok, rfl⟩ := ok
    rcases ok with ⟨rfl, h1⟩ | ⟨rfl, h1⟩
    · exact lv_lconst hx hb (isI_d h1) rfl k
    · exact lv_lconst hx hb (isI_d h1) rfl k
  · simp only [Bool.and_eq_true, decide_eq_true_eq] at ok
    obtain ⟨⟨h1, rfl⟩, h2⟩ := ok
    obtain ⟨e, he, h3⟩ := List.any_eq_true.mp h2
    simp only [decide_eq_true_eq] at h3
    have q := (cj_ok e he).1
    rw [h3.1, h3.2.1, h3.2.2] at q
    exact lv_ldc2 hx hb hown (hts _ (gt_of q rfl)) (isI_d h1) k
theorem w_2 (hx : p.tables.exec = Jvm.exec) (hb : c.code = mcF m) (ok : okI m pc (2, nx, a, b, v, ts) = true) (k : W p l e R s mid args below meth c H locs cells slots Q (F0 mid nx ls (.null :: rest))) : W p l e R s mid args below meth c H locs cells slots Q (F0 mid pc ls (rest)) := by
  simp only [okI, Bool.and_eq_true, decide_eq_true_eq] at ok
  obtain ⟨⟨h1, rfl⟩, -⟩ := ok
  exact lv_null hx hb (isI_d h1) k
theorem w_3i (hx : p.tables.exec = Jvm.exec) (hb : c.code = mcF m) {x : Int32} (ok : okI m pc (3, nx, a, b, v, ts) = true) (hk : b = 0) (hl : ls[a]? = some (.val (.int x))) (k : W p l e R s mid args below meth c H locs cells slots Q (F0 mid nx ls (.int x :: rest))) : W p l e R s mid args below meth c H locs cells slots Q (F0 mid pc ls (rest)) := by
  subst hk
  simp only [okI, Bool.and_eq_true] at ok
  obtain ⟨-, ok⟩ := ok
  split at ok
  · simp only [Bool.and_eq_true, decide_eq_true_eq] at ok
    obtain ⟨⟨h1, rfl⟩, h2⟩ := ok
    exact lv_iload_n hx hb (isI_d h1) (fin4_v h2) hl k
  · simp only [Bool.and_eq_true, decide_eq_true_eq] at ok
    obtain ⟨h1, rfl⟩ := ok
    exact lv_iload hx hb (isI_d h1) hl k
theorem w_3l (hx : p.tables.exec = Jvm.exec) (hb : c.code = mcF m) {x : Int64} (ok : okI m pc (3, nx, a, b, v, ts) = true) (hk : b = 2) (hl : ls[a]? = some (.val (.long x))) (k : W p l e R s mid args below meth c H locs cells slots Q (F0 mid nx ls (.long x :: rest))) : W p l e R s mid args below meth c H locs cells slots Q (F0 mid pc ls (rest)) := by
  subst hk
  simp only [okI, Bool.and_eq_true] at ok
  obtain ⟨-, ok⟩ := ok
  split at ok
  · simp only [Bool.and_eq_true, decide_eq_true_eq] at ok
    obtain ⟨⟨h1, rfl⟩, h2⟩ := ok
    exact lv_lload_n hx hb (isI_d h1) (fin4_v h2) hl k
  · simp only [Bool.and_eq_true, decide_eq_true_eq] at ok
    obtain ⟨h1, rfl⟩ := ok
    exact lv_lload hx hb (isI_d h1) hl k
theorem w_3a (hx : p.tables.exec = Jvm.exec) (hb : c.code = mcF m) {x : Nat} (ok : okI m pc (3, nx, a, b, v, ts) = true) (hk : b = 1) (hl : ls[a]? = some (.val (.ref x))) (k : W p l e R s mid args below meth c H locs cells slots Q (F0 mid nx ls (.ref x :: rest))) : W p l e R s mid args below meth c H locs cells slots Q (F0 mid pc ls (rest)) := by
  subst hk
  simp only [okI, Bool.and_eq_true] at ok
  obtain ⟨-, ok⟩ := ok
  split at ok
  · simp only [Bool.and_eq_true, decide_eq_true_eq] at ok
    obtain ⟨⟨h1, rfl⟩, h2⟩ := ok
    exact lv_aload_n hx hb (isI_d h1) (fin4_v h2) hl k
  · simp only [Bool.and_eq_true, decide_eq_true_eq] at ok
    obtain ⟨h1, rfl⟩ := ok
    exact lv_aload hx hb (isI_d h1) hl k
theorem w_3n (hx : p.tables.exec = Jvm.exec) (hb : c.code = mcF m) (ok : okI m pc (3, nx, a, b, v, ts) = true) (hk : b = 1) (hl : ls[a]? = some (.val .null)) (k : W p l e R s mid args below meth c H locs cells slots Q (F0 mid nx ls (.null :: rest))) : W p l e R s mid args below meth c H locs cells slots Q (F0 mid pc ls (rest)) := by
  subst hk
  simp only [okI, Bool.and_eq_true] at ok
  obtain ⟨-, ok⟩ := ok
  split at ok
  · simp only [Bool.and_eq_true, decide_eq_true_eq] at ok
    obtain ⟨⟨h1, rfl⟩, h2⟩ := ok
    exact lv_aload_nN hx hb (isI_d h1) (fin4_v h2) hl k
  · simp only [Bool.and_eq_true, decide_eq_true_eq] at ok
    obtain ⟨h1, rfl⟩ := ok
    exact lv_aloadN hx hb (isI_d h1) hl k
theorem w_4i (hx : p.tables.exec = Jvm.exec) (hb : c.code = mcF m) {nL : Nat} {lv : List (Nat × Value)} {x : Int32} (ok : okI m pc (4, nx, a, b, v, ts) = true) (hk : b = 0) (h : lv_has ls nL lv) (hn : a < nL) (k : ∀ ls' : Array Slot, lv_has ls' nL ((a, Value.int x) :: lv.filter (fun q => !(q.1 == a) && !(q.1 + 1 == a && q.2.category == 2))) → W p l e R s mid args below meth c H locs cells slots Q (F0 mid nx ls' (rest))) : W p l e R s mid args below meth c H locs cells slots Q (F0 mid pc ls (Value.int x :: rest)) := by
  subst hk
  simp only [okI, Bool.and_eq_true] at ok
  obtain ⟨-, ok⟩ := ok
  split at ok
  · simp only [Bool.and_eq_true, decide_eq_true_eq] at ok
    obtain ⟨⟨h1, rfl⟩, h2⟩ := ok
    exact lv_istore_n hx hb (isI_d h1) (fin4_v h2) h hn rfl k
  · simp only [Bool.and_eq_true, decide_eq_true_eq] at ok
    obtain ⟨h1, rfl⟩ := ok
    exact lv_istore hx hb (isI_d h1) h hn rfl k
theorem w_4a (hx : p.tables.exec = Jvm.exec) (hb : c.code = mcF m) {nL : Nat} {lv : List (Nat × Value)} {x : Nat} (ok : okI m pc (4, nx, a, b, v, ts) = true) (hk : b = 1) (h : lv_has ls nL lv) (hn : a < nL) (k : ∀ ls' : Array Slot, lv_has ls' nL ((a, Value.ref x) :: lv.filter (fun q => !(q.1 == a) && !(q.1 + 1 == a && q.2.category == 2))) → W p l e R s mid args below meth c H locs cells slots Q (F0 mid nx ls' (rest))) : W p l e R s mid args below meth c H locs cells slots Q (F0 mid pc ls (Value.ref x :: rest)) := by
  subst hk
  simp only [okI, Bool.and_eq_true] at ok
  obtain ⟨-, ok⟩ := ok
  split at ok
  · simp only [Bool.and_eq_true, decide_eq_true_eq] at ok
    obtain ⟨⟨h1, rfl⟩, h2⟩ := ok
    exact lv_astore_n hx hb (isI_d h1) (fin4_v h2) h hn rfl k
  · simp only [Bool.and_eq_true, decide_eq_true_eq] at ok
    obtain ⟨h1, rfl⟩ := ok
    exact lv_astore hx hb (isI_d h1) h hn rfl k
theorem w_4n (hx : p.tables.exec = Jvm.exec) (hb : c.code = mcF m) {nL : Nat} {lv : List (Nat × Value)}  (ok : okI m pc (4, nx, a, b, v, ts) = true) (hk : b = 1) (h : lv_has ls nL lv) (hn : a < nL) (k : ∀ ls' : Array Slot, lv_has ls' nL ((a, Value.null) :: lv.filter (fun q => !(q.1 == a) && !(q.1 + 1 == a && q.2.category == 2))) → W p l e R s mid args below meth c H locs cells slots Q (F0 mid nx ls' (rest))) : W p l e R s mid args below meth c H locs cells slots Q (F0 mid pc ls (Value.null :: rest)) := by
  subst hk
  simp only [okI, Bool.and_eq_true] at ok
  obtain ⟨-, ok⟩ := ok
  split at ok
  · simp only [Bool.and_eq_true, decide_eq_true_eq] at ok
    obtain ⟨⟨h1, rfl⟩, h2⟩ := ok
    exact lv_astore_nN hx hb (isI_d h1) (fin4_v h2) h hn rfl k
  · simp only [Bool.and_eq_true, decide_eq_true_eq] at ok
    obtain ⟨h1, rfl⟩ := ok
    exact lv_astoreN hx hb (isI_d h1) h hn rfl k
theorem w_4l (hx : p.tables.exec = Jvm.exec) (hb : c.code = mcF m) {nL : Nat} {lv : List (Nat × Value)} {x : Int64} (ok : okI m pc (4, nx, a, b, v, ts) = true) (hk : b = 2) (h : lv_has ls nL lv) (hn : a + 1 < nL) (k : ∀ ls' : Array Slot, lv_has ls' nL ((a, Value.long x) :: lv.filter (fun q => !(q.1 == a) && (!(q.1 == a + 1) && !(q.1 + 1 == a && q.2.category == 2)))) → W p l e R s mid args below meth c H locs cells slots Q (F0 mid nx ls' (rest))) : W p l e R s mid args below meth c H locs cells slots Q (F0 mid pc ls (Value.long x :: rest)) := by
  subst hk
  simp only [okI, Bool.and_eq_true] at ok
  obtain ⟨-, ok⟩ := ok
  split at ok
  · simp only [Bool.and_eq_true, decide_eq_true_eq] at ok
    obtain ⟨⟨h1, rfl⟩, h2⟩ := ok
    exact lv_lstore_n hx hb (isI_d h1) (fin4_v h2) h hn rfl k
  · simp only [Bool.and_eq_true, decide_eq_true_eq] at ok
    obtain ⟨h1, rfl⟩ := ok
    exact lv_lstore hx hb (isI_d h1) h hn rfl k
theorem w_5 (hx : p.tables.exec = Jvm.exec) (hb : c.code = mcF m) {nL : Nat} {lv : List (Nat × Value)} {x : Int32} (ok : okI m pc (5, nx, a, b, v, ts) = true) (h : lv_has ls nL lv) (hm : (a, Value.int x) ∈ lv) (hn : a < nL) (k : ∀ ls' : Array Slot, lv_has ls' nL ((a, Value.int (x + Int32.ofInt v)) :: lv.filter (fun q => !(q.1 == a) && !(q.1 + 1 == a && q.2.category == 2))) → W p l e R s mid args below meth c H locs cells slots Q (F0 mid nx ls' (rest))) : W p l e R s mid args below meth c H locs cells slots Q (F0 mid pc ls (rest)) := by
  simp only [okI, Bool.and_eq_true, decide_eq_true_eq] at ok
  obtain ⟨⟨h1, rfl⟩, -⟩ := ok
  obtain ⟨i, hi⟩ := List.getElem?_of_mem hm
  exact lv_iinc hx hb (isI_d h1) h hi rfl hn rfl k
theorem w_6 (hx : p.tables.exec = Jvm.exec) (hb : c.code = mcF m) {x y z : Int} (ok : okI m pc (6, nx, a, b, v, ts) = true) (h0 : in32 y) (hz : binM b x y = some z) (k : W p l e R s mid args below meth c H locs cells slots Q (F0 mid nx ls (.int (Int32.ofInt z) :: rest))) : W p l e R s mid args below meth c H locs cells slots Q (F0 mid pc ls (.int (Int32.ofInt y) :: .int (Int32.ofInt x) :: rest)) := by
  simp only [okI, Bool.and_eq_true, decide_eq_true_eq] at ok
  obtain ⟨⟨h1, rfl⟩, h2⟩ := ok
  have h1 := isI_d h1
  unfold binM at hz
  split at hz
  · cases hz
    rw [Zadd, r32] at k
    exact lv_iadd hx hb h1 k
  · cases hz
    rw [Zsub, r32] at k
    exact lv_isub hx hb h1 k
  · cases hz
    rw [Zmul, r32] at k
    exact lv_imul hx hb h1 k
  · cases hz
    rw [Zand, r32] at k
    exact lv_iand hx hb h1 k
  · cases hz
    rw [Zor, r32] at k
    exact lv_ior hx hb h1 k
  · cases hz
    rw [Zshl, r32] at k
    exact lv_ishl hx hb h1 k
  · cases hz
    rw [Zshr, r32] at k
    exact lv_ishr hx hb h1 k
  · split at hz
    · cases hz
    · rename_i hne
      cases hz
      rw [Zdiv, r32] at k
      exact lv_idiv hx hb h1 (fun q => hne ((eq32 h0 z32).mp q)) k
  · split at hz
    · cases hz
    · rename_i hne
      cases hz
      rw [Zrem, r32] at k
      exact lv_irem hx hb h1 (fun q => hne ((eq32 h0 z32).mp q)) k
  · cases hz
theorem w_7 (hx : p.tables.exec = Jvm.exec) (hb : c.code = mcF m) {x y z : Int} (ok : okI m pc (7, nx, a, b, v, ts) = true) (h0 : in64 y) (hz : lbinM b x y = some z) (k : W p l e R s mid args below meth c H locs cells slots Q (F0 mid nx ls (.long (Int64.ofInt z) :: rest))) : W p l e R s mid args below meth c H locs cells slots Q (F0 mid pc ls (.long (Int64.ofInt y) :: .long (Int64.ofInt x) :: rest)) := by
  simp only [okI, Bool.and_eq_true, decide_eq_true_eq] at ok
  obtain ⟨⟨h1, rfl⟩, h2⟩ := ok
  have h1 := isI_d h1
  unfold lbinM at hz
  split at hz
  · cases hz
    rw [Zladd, r64] at k
    exact lv_ladd hx hb h1 k
  · cases hz
    rw [Zlmul, r64] at k
    exact lv_lmul hx hb h1 k
  · split at hz
    · cases hz
    · rename_i hne
      cases hz
      rw [Zldiv, r64] at k
      refine lv_ldiv hx hb h1 (fun q => hne ?_) k
      have q2 := congrArg Int64.toInt q
      rw [o64 h0] at q2
      exact q2
  · cases hz
theorem w_8 (hx : p.tables.exec = Jvm.exec) (hb : c.code = mcF m) {x : Int} (ok : okI m pc (8, nx, a, b, v, ts) = true) (h0 : in32 x) (k : W p l e R s mid args below meth c H locs cells slots Q (F0 mid nx ls (.long (Int64.ofInt x) :: rest))) : W p l e R s mid args below meth c H locs cells slots Q (F0 mid pc ls (.int (Int32.ofInt x) :: rest)) := by
  simp only [okI, Bool.and_eq_true, decide_eq_true_eq] at ok
  obtain ⟨h1, rfl⟩ := ok
  exact lv_i2l hx hb (isI_d h1) (i64c h0) k
theorem w_9 (hx : p.tables.exec = Jvm.exec) (hb : c.code = mcF m) {x : Int} (ok : okI m pc (9, nx, a, b, v, ts) = true) (k : W p l e R s mid args below meth c H locs cells slots Q (F0 mid nx ls (.int (Int32.ofInt (Zi2b x)) :: rest))) : W p l e R s mid args below meth c H locs cells slots Q (F0 mid pc ls (.int (Int32.ofInt x) :: rest)) := by
  simp only [okI, Bool.and_eq_true, decide_eq_true_eq] at ok
  obtain ⟨h1, rfl⟩ := ok
  rw [Zi2b, r32] at k
  exact lv_i2b hx hb (isI_d h1) rfl k
theorem w_10 (hx : p.tables.exec = Jvm.exec) (hb : c.code = mcF m) {x y : Int} (ok : okI m pc (10, nx, a, b, v, ts) = true) (h0 : in64 x) (h1 : in64 y) (k : W p l e R s mid args below meth c H locs cells slots Q (F0 mid nx ls (.int (Int32.ofInt (Zlcmp x y)) :: rest))) : W p l e R s mid args below meth c H locs cells slots Q (F0 mid pc ls (.long (Int64.ofInt y) :: .long (Int64.ofInt x) :: rest)) := by
  simp only [okI, Bool.and_eq_true, decide_eq_true_eq] at ok
  obtain ⟨h2, rfl⟩ := ok
  refine W.lcmp hx hb (isI_d h2) ?_
  have q : lg_cmp (Int64.ofInt x) (Int64.ofInt y) = Int32.ofInt (Zlcmp x y) := by
    unfold lg_cmp Zlcmp
    have e1 : (Int64.ofInt x > Int64.ofInt y) ↔ y < x := by rw [gt_iff_lt, Int64.lt_iff_toInt_lt, o64 h0, o64 h1]
    have e2 : (Int64.ofInt x = Int64.ofInt y) ↔ x = y := by rw [← Int64.toInt_inj, o64 h0, o64 h1]
    simp only [e1, e2]
    split
    · rfl
    · split <;> rfl
  rw [q]
  exact k
theorem w_11 (hx : p.tables.exec = Jvm.exec) (hb : c.code = mcF m) {x : Value} (ok : okI m pc (11, nx, a, b, v, ts) = true) (hc : x.category = 1) (k : W p l e R s mid args below meth c H locs cells slots Q (F0 mid nx ls (x :: x :: rest))) : W p l e R s mid args below meth c H locs cells slots Q (F0 mid pc ls (x :: rest)) := by
  simp only [okI, Bool.and_eq_true, decide_eq_true_eq] at ok
  obtain ⟨h1, rfl⟩ := ok
  exact lv_dup hx hb (isI_d h1) hc k
theorem w_12 (hx : p.tables.exec = Jvm.exec) (hb : c.code = mcF m) {x y : Value} (ok : okI m pc (12, nx, a, b, v, ts) = true) (hc : x.category = 1) (hd : y.category = 1) (k : W p l e R s mid args below meth c H locs cells slots Q (F0 mid nx ls (x :: y :: x :: y :: rest))) : W p l e R s mid args below meth c H locs cells slots Q (F0 mid pc ls (x :: y :: rest)) := by
  simp only [okI, Bool.and_eq_true, decide_eq_true_eq] at ok
  obtain ⟨h1, rfl⟩ := ok
  exact lv_dup2_11 hx hb (isI_d h1) hc hd k
theorem w_14 (hx : p.tables.exec = Jvm.exec) (hb : c.code = mcF m) {x y : Int} (ok : okI m pc (14, nx, a, b, v, ts) = true) (h0 : in32 x) (h1 : in32 y) (k : W p l e R s mid args below meth c H locs cells slots Q (F0 mid (if cmpM b x y = true then a else nx) ls (rest))) : W p l e R s mid args below meth c H locs cells slots Q (F0 mid pc ls (.int (Int32.ofInt y) :: .int (Int32.ofInt x) :: rest)) := by
  simp only [okI, Bool.and_eq_true, decide_eq_true_eq] at ok
  obtain ⟨⟨h2, rfl⟩, h3⟩ := ok
  have h2 := isI_d h2
  have ht : (pc : Int) + ((a : Int) - pc) = (a : Int) := by omega
  have h6 : b = 0 ∨ b = 1 ∨ b = 2 ∨ b = 3 ∨ b = 4 ∨ b = 5 := by omega
  rcases h6 with rfl | rfl | rfl | rfl | rfl | rfl
  · refine lv_icmp_eq hx hb h2 ht (fun q => ?_) (fun q => ?_)
    · rwa [if_pos (by simp only [cmpM, decide_eq_true_eq]; exact (eq32 h0 h1).mp q)] at k
    · rwa [if_neg (by simp only [cmpM, decide_eq_true_eq]; exact fun z => q ((eq32 h0 h1).mpr z))] at k
  · refine lv_icmp_ne hx hb h2 ht (fun q => ?_) (fun q => ?_)
    · rwa [if_pos (by simp only [cmpM, decide_eq_true_eq]; exact fun z => q ((eq32 h0 h1).mpr z))] at k
    · rwa [if_neg (by simp only [cmpM, decide_eq_true_eq]; exact fun z => z ((eq32 h0 h1).mp (by first | exact q | exact Classical.not_not.mp q)))] at k
  · refine lv_icmp_lt hx hb h2 ht (fun q => ?_) (fun q => ?_)
    · rwa [if_pos (by simp only [cmpM, decide_eq_true_eq]; exact (lt32 h0 h1).mp q)] at k
    · rwa [if_neg (by simp only [cmpM, decide_eq_true_eq]; exact fun z => q ((lt32 h0 h1).mpr z))] at k
  · refine lv_icmp_ge hx hb h2 ht (fun q => ?_) (fun q => ?_)
    · rwa [if_pos (by simp only [cmpM, decide_eq_true_eq]; exact (le32 h1 h0).mp q)] at k
    · rwa [if_neg (by simp only [cmpM, decide_eq_true_eq]; exact fun z => q ((le32 h1 h0).mpr z))] at k
  · refine lv_icmp_gt hx hb h2 ht (fun q => ?_) (fun q => ?_)
    · rwa [if_pos (by simp only [cmpM, decide_eq_true_eq]; exact (lt32 h1 h0).mp q)] at k
    · rwa [if_neg (by simp only [cmpM, decide_eq_true_eq]; exact fun z => q ((lt32 h1 h0).mpr z))] at k
  · refine lv_icmp_le hx hb h2 ht (fun q => ?_) (fun q => ?_)
    · rwa [if_pos (by simp only [cmpM, decide_eq_true_eq]; exact (le32 h0 h1).mp q)] at k
    · rwa [if_neg (by simp only [cmpM, decide_eq_true_eq]; exact fun z => q ((le32 h0 h1).mpr z))] at k
theorem w_13 (hx : p.tables.exec = Jvm.exec) (hb : c.code = mcF m) {x : Int} (ok : okI m pc (13, nx, a, b, v, ts) = true) (h0 : in32 x) (k : W p l e R s mid args below meth c H locs cells slots Q (F0 mid (if cmpM b x 0 = true then a else nx) ls (rest))) : W p l e R s mid args below meth c H locs cells slots Q (F0 mid pc ls (.int (Int32.ofInt x) :: rest)) := by
  simp only [okI, Bool.and_eq_true, decide_eq_true_eq] at ok
  obtain ⟨⟨h2, rfl⟩, h3⟩ := ok
  have h2 := isI_d h2
  have h1 : in32 0 := z32
  have e0 : Int32.ofInt 0 = 0 := rfl
  have ht : (pc : Int) + ((a : Int) - pc) = (a : Int) := by omega
  have h6 : b = 0 ∨ b = 1 ∨ b = 2 ∨ b = 3 ∨ b = 4 ∨ b = 5 := by omega
  rcases h6 with rfl | rfl | rfl | rfl | rfl | rfl
  · refine lv_if_eq hx hb h2 ht (fun q => ?_) (fun q => ?_)
    · rwa [if_pos (by simp only [cmpM, decide_eq_true_eq]; exact (eq32 h0 h1).mp q)] at k
    · rwa [if_neg (by simp only [cmpM, decide_eq_true_eq]; exact fun z => q ((eq32 h0 h1).mpr z))] at k
  · refine lv_if_ne hx hb h2 ht (fun q => ?_) (fun q => ?_)
    · rwa [if_pos (by simp only [cmpM, decide_eq_true_eq]; exact fun z => q ((eq32 h0 h1).mpr z))] at k
    · rwa [if_neg (by simp only [cmpM, decide_eq_true_eq]; exact fun z => z ((eq32 h0 h1).mp (by first | exact q | exact Classical.not_not.mp q)))] at k
  · refine lv_if_lt hx hb h2 ht (fun q => ?_) (fun q => ?_)
    · rwa [if_pos (by simp only [cmpM, decide_eq_true_eq]; exact (lt32 h0 h1).mp q)] at k
    · rwa [if_neg (by simp only [cmpM, decide_eq_true_eq]; exact fun z => q ((lt32 h0 h1).mpr z))] at k
  · refine lv_if_ge hx hb h2 ht (fun q => ?_) (fun q => ?_)
    · rwa [if_pos (by simp only [cmpM, decide_eq_true_eq]; exact (le32 h1 h0).mp q)] at k
    · rwa [if_neg (by simp only [cmpM, decide_eq_true_eq]; exact fun z => q ((le32 h1 h0).mpr z))] at k
  · refine lv_if_gt hx hb h2 ht (fun q => ?_) (fun q => ?_)
    · rwa [if_pos (by simp only [cmpM, decide_eq_true_eq]; exact (lt32 h1 h0).mp q)] at k
    · rwa [if_neg (by simp only [cmpM, decide_eq_true_eq]; exact fun z => q ((lt32 h1 h0).mpr z))] at k
  · refine lv_if_le hx hb h2 ht (fun q => ?_) (fun q => ?_)
    · rwa [if_pos (by simp only [cmpM, decide_eq_true_eq]; exact (le32 h0 h1).mp q)] at k
    · rwa [if_neg (by simp only [cmpM, decide_eq_true_eq]; exact fun z => q ((le32 h0 h1).mpr z))] at k
theorem w_15 (hx : p.tables.exec = Jvm.exec) (hb : c.code = mcF m) {ad adK : Nat → Nat} {b0 : Nat} {x : AV} (ok : okI m pc (15, nx, a, b, v, ts) = true) (hr : 10 ≤ x.1) (k : W p l e R s mid args below meth c H locs cells slots Q (F0 mid (if x.2 < 0 then a else nx) ls (rest))) : W p l e R s mid args below meth c H locs cells slots Q (F0 mid pc ls (cnV ad adK b0 x :: rest)) := by
  simp only [okI, Bool.and_eq_true, decide_eq_true_eq] at ok
  obtain ⟨h2, rfl⟩ := ok
  have h2 := isI_d h2
  have ht : (pc : Int) + ((a : Int) - pc) = (a : Int) := by omega
  obtain ⟨t, w⟩ := x
  by_cases hw : w < 0
  · rw [cn_n hr hw]
    rw [if_pos hw] at k
    exact lv_ifnullN hx hb h2 ht k
  · rw [cn_r hr (by omega)]
    rw [if_neg hw] at k
    exact lv_ifnull hx hb h2 k
theorem w_16 (hx : p.tables.exec = Jvm.exec) (hb : c.code = mcF m) {ad adK : Nat → Nat} {b0 : Nat} {x : AV} (ok : okI m pc (16, nx, a, b, v, ts) = true) (hr : 10 ≤ x.1) (k : W p l e R s mid args below meth c H locs cells slots Q (F0 mid (if x.2 < 0 then nx else a) ls (rest))) : W p l e R s mid args below meth c H locs cells slots Q (F0 mid pc ls (cnV ad adK b0 x :: rest)) := by
  simp only [okI, Bool.and_eq_true, decide_eq_true_eq] at ok
  obtain ⟨h2, rfl⟩ := ok
  have h2 := isI_d h2
  have ht : (pc : Int) + ((a : Int) - pc) = (a : Int) := by omega
  obtain ⟨t, w⟩ := x
  by_cases hw : w < 0
  · rw [cn_n hr hw]
    rw [if_pos hw] at k
    exact lv_ifnonnullN hx hb h2 k
  · rw [cn_r hr (by omega)]
    rw [if_neg hw] at k
    exact lv_ifnonnull hx hb h2 ht k
theorem w_17 (hx : p.tables.exec = Jvm.exec) (hb : c.code = mcF m) {ad adK : Nat → Nat} {b0 n : Nat} {x y : AV} (ok : okI m pc (17, nx, a, b, v, ts) = true) (hr : 10 ≤ x.1) (hq : 10 ≤ y.1) (h1 : okV n x) (h3 : okV n y) (hi : ∀ i j, i < n → j < n → ad i = ad j → i = j) (k : W p l e R s mid args below meth c H locs cells slots Q (F0 mid (if x.2 = y.2 then a else nx) ls (rest))) : W p l e R s mid args below meth c H locs cells slots Q (F0 mid pc ls (cnV ad adK b0 y :: cnV ad adK b0 x :: rest)) := by
  simp only [okI, Bool.and_eq_true, decide_eq_true_eq] at ok
  obtain ⟨h2, rfl⟩ := ok
  have h2 := isI_d h2
  have ht : (pc : Int) + ((a : Int) - pc) = (a : Int) := by omega
  obtain ⟨t, w⟩ := x
  obtain ⟨t2, w2⟩ := y
  rw [cn_q hr, cn_q hq]
  have g1 := h1.ref hr
  have g2 := h3.ref hq
  simp only at k g1 g2
  refine lv_acmp_eq hx hb h2 ht (fun q => ?_) (fun q => ?_)
  · have e1 : w = w2 := by
      rcases g1 with g1 | ⟨a1, a2, -⟩
      · rcases g2 with g2 | ⟨b1, b2, -⟩
        · omega
        · rw [if_pos (by omega), if_neg (by omega)] at q; cases q
      · rcases g2 with g2 | ⟨b1, b2, -⟩
        · rw [if_neg (by omega), if_pos (by omega)] at q; cases q
        · rw [if_neg (by omega), if_neg (by omega)] at q
          have := hi _ _ (by omega) (by omega) (Option.some.inj q)
          omega
    rwa [if_pos e1] at k
  · rwa [if_neg (by intro z; exact q (by rw [z]))] at k
theorem w_18 (hx : p.tables.exec = Jvm.exec) (hb : c.code = mcF m) (ok : okI m pc (18, nx, a, b, v, ts) = true) (k : W p l e R s mid args below meth c H locs cells slots Q (F0 mid a ls (rest))) : W p l e R s mid args below meth c H locs cells slots Q (F0 mid pc ls (rest)) := by
  simp only [okI] at ok
  exact lv_goto hx hb (isI_d ok) (by omega) k
end WST
