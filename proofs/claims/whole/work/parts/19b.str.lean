/-! String.length() and String.charAt(int) on the class's String constants -/
def yCo : MethodName := ⟨"java/lang/String", "coder", "()B"⟩
def yLe : MethodName := ⟨"java/lang/String", "length", "()I"⟩
def yCh : MethodName := ⟨"java/lang/String", "charAt", "(I)C"⟩
def yIl : MethodName := ⟨"java/lang/String", "isLatin1", "()Z"⟩
def yLc : MethodName := ⟨"java/lang/StringLatin1", "charAt", "([BI)C"⟩
def yCi : MethodName := ⟨"java/lang/String", "checkIndex", "(II)V"⟩
def yPi : MethodName := ⟨"jdk/internal/util/Preconditions", "checkIndex", "(IILjava/util/function/BiFunction;)I"⟩
abbrev kCo : ByteArray := prog_16_method_152_code
abbrev kLe : ByteArray := prog_16_method_54_code
abbrev kCh : ByteArray := prog_16_method_56_code
abbrev kIl : ByteArray := prog_16_method_154_code
abbrev kLc : ByteArray := prog_17_method_2_code
abbrev kCi : ByteArray := prog_16_method_155_code
abbrev kPi : ByteArray := prog_21_method_11_code
set_option maxRecDepth 100000 in
theorem jw1 : lw_tbl[799]? = some (Cond.methodLink "java/lang/String" 335 yCo) ∧ lw_tbl[800]? = some (Cond.instanceMethod yCo) ∧ lw_tbl[801]? = some (Cond.selects "java/lang/String" yCo yCo) ∧ lw_tbl[803]? = some (Cond.fieldLink "java/lang/String" 38 "java/lang/String" "COMPACT_STRINGS" "Z") ∧ lw_tbl[809]? = some (Cond.methodLink "java/lang/String" 492 yIl) ∧ lw_tbl[810]? = some (Cond.instanceMethod yIl) ∧ lw_tbl[811]? = some (Cond.selects "java/lang/String" yIl yIl) ∧ lw_tbl[813]? = some (Cond.methodLink "java/lang/String" 495 yLc) ∧ lw_tbl[814]? = some (Cond.static yLc) := by decide +kernel
set_option maxRecDepth 100000 in
theorem jw2 : lw_tbl[816]? = some (Cond.methodLink "java/lang/StringLatin1" 9 yCi) ∧ lw_tbl[817]? = some (Cond.static yCi) ∧ lw_tbl[819]? = some (Cond.fieldLink "java/lang/String" 1053 "jdk/internal/util/Preconditions" "SIOOBE_FORMATTER" "Ljava/util/function/BiFunction;") ∧ lw_tbl[821]? = some (Cond.methodLink "java/lang/String" 1059 yPi) ∧ lw_tbl[822]? = some (Cond.static yPi) ∧ lw_tbl[1371]? = some (Cond.fieldLink "java/lang/String" 9 "java/lang/String" "value" "[B") ∧ lw_tbl[1372]? = some (Cond.fieldLink "java/lang/String" 15 "java/lang/String" "coder" "B") ∧ lw_tbl[68]? = some (Cond.initialized "java/lang/String") ∧ lw_tbl[69]? = some (Cond.initialized "java/lang/StringLatin1") ∧ lw_tbl[70]? = some (Cond.initialized "jdk/internal/util/Preconditions") := by decide +kernel
set_option maxRecDepth 100000 in
theorem jw3 : lw_tbl[796]? = some (Cond.instanceMethod yLe) ∧ lw_tbl[797]? = some (Cond.selects "java/lang/String" yLe yLe) ∧ lw_tbl[806]? = some (Cond.instanceMethod yCh) ∧ lw_tbl[807]? = some (Cond.selects "java/lang/String" yCh yCh) := by decide +kernel
set_option maxRecDepth 100000 in
theorem jc1 : lw_tbl[802]? = some (Cond.code yCo kCo 1 (some .byte)) := rfl
set_option maxRecDepth 100000 in
theorem jc2 : lw_tbl[798]? = some (Cond.code yLe kLe 1 (some .int)) := rfl
set_option maxRecDepth 100000 in
theorem jc3 : lw_tbl[808]? = some (Cond.code yCh kCh 2 (some .char)) := rfl
set_option maxRecDepth 100000 in
theorem jc4 : lw_tbl[812]? = some (Cond.code yIl kIl 1 (some .boolean)) := rfl
set_option maxRecDepth 100000 in
theorem jc5 : lw_tbl[815]? = some (Cond.code yLc kLc 2 (some .char)) := rfl
set_option maxRecDepth 100000 in
theorem jc6 : lw_tbl[818]? = some (Cond.code yCi kCi 2 none) := rfl
set_option maxRecDepth 100000 in
theorem jc7 : lw_tbl[823]? = some (Cond.code yPi kPi 3 (some .int)) := rfl
theorem dCo0 : decode kCo 0 = .ok (.getstatic 38, 3) := by decide +kernel
theorem dCo3 : decode kCo 3 = .ok (.ifCond .eq 10, 3) := by decide +kernel
theorem dCo6 : decode kCo 6 = .ok (.aload_n 0, 1) := by decide +kernel
theorem dCo7 : decode kCo 7 = .ok (.getfield 15, 3) := by decide +kernel
theorem dCo10 : decode kCo 10 = .ok (.goto 4, 3) := by decide +kernel
theorem dCo14 : decode kCo 14 = .ok (.ireturn, 1) := by decide +kernel
theorem dIl0 : decode kIl 0 = .ok (.getstatic 38, 3) := by decide +kernel
theorem dIl3 : decode kIl 3 = .ok (.ifCond .eq 14, 3) := by decide +kernel
theorem dIl6 : decode kIl 6 = .ok (.aload_n 0, 1) := by decide +kernel
theorem dIl7 : decode kIl 7 = .ok (.getfield 15, 3) := by decide +kernel
theorem dIl10 : decode kIl 10 = .ok (.ifCond .ne 7, 3) := by decide +kernel
theorem dIl13 : decode kIl 13 = .ok (.iconst 1, 1) := by decide +kernel
theorem dIl14 : decode kIl 14 = .ok (.goto 4, 3) := by decide +kernel
theorem dIl18 : decode kIl 18 = .ok (.ireturn, 1) := by decide +kernel
theorem dLe0 : decode kLe 0 = .ok (.aload_n 0, 1) := by decide +kernel
theorem dLe1 : decode kLe 1 = .ok (.getfield 9, 3) := by decide +kernel
theorem dLe4 : decode kLe 4 = .ok (.arraylength, 1) := by decide +kernel
theorem dLe5 : decode kLe 5 = .ok (.aload_n 0, 1) := by decide +kernel
theorem dLe6 : decode kLe 6 = .ok (.invokevirtual 335, 3) := by decide +kernel
theorem dLe9 : decode kLe 9 = .ok (.ishr, 1) := by decide +kernel
theorem dLe10 : decode kLe 10 = .ok (.ireturn, 1) := by decide +kernel
theorem dCh0 : decode kCh 0 = .ok (.aload_n 0, 1) := by decide +kernel
theorem dCh1 : decode kCh 1 = .ok (.invokevirtual 492, 3) := by decide +kernel
theorem dCh4 : decode kCh 4 = .ok (.ifCond .eq 12, 3) := by decide +kernel
theorem dCh7 : decode kCh 7 = .ok (.aload_n 0, 1) := by decide +kernel
theorem dCh8 : decode kCh 8 = .ok (.getfield 9, 3) := by decide +kernel
theorem dCh11 : decode kCh 11 = .ok (.iload_n 1, 1) := by decide +kernel
theorem dCh12 : decode kCh 12 = .ok (.invokestatic 495, 3) := by decide +kernel
theorem dCh15 : decode kCh 15 = .ok (.ireturn, 1) := by decide +kernel
theorem dLc0 : decode kLc 0 = .ok (.iload_n 1, 1) := by decide +kernel
theorem dLc1 : decode kLc 1 = .ok (.aload_n 0, 1) := by decide +kernel
theorem dLc2 : decode kLc 2 = .ok (.arraylength, 1) := by decide +kernel
theorem dLc3 : decode kLc 3 = .ok (.invokestatic 9, 3) := by decide +kernel
theorem dLc6 : decode kLc 6 = .ok (.aload_n 0, 1) := by decide +kernel
theorem dLc7 : decode kLc 7 = .ok (.iload_n 1, 1) := by decide +kernel
theorem dLc8 : decode kLc 8 = .ok (.baload, 1) := by decide +kernel
theorem dLc9 : decode kLc 9 = .ok (.sipush 255, 3) := by decide +kernel
theorem dLc12 : decode kLc 12 = .ok (.iand, 1) := by decide +kernel
theorem dLc13 : decode kLc 13 = .ok (.i2c, 1) := by decide +kernel
theorem dLc14 : decode kLc 14 = .ok (.ireturn, 1) := by decide +kernel
theorem dCi0 : decode kCi 0 = .ok (.iload_n 0, 1) := by decide +kernel
theorem dCi1 : decode kCi 1 = .ok (.iload_n 1, 1) := by decide +kernel
theorem dCi2 : decode kCi 2 = .ok (.getstatic 1053, 3) := by decide +kernel
theorem dCi5 : decode kCi 5 = .ok (.invokestatic 1059, 3) := by decide +kernel
theorem dCi8 : decode kCi 8 = .ok (.pop, 1) := by decide +kernel
theorem dCi9 : decode kCi 9 = .ok (.return_, 1) := by decide +kernel
theorem dPi0 : decode kPi 0 = .ok (.iload_n 0, 1) := by decide +kernel
theorem dPi1 : decode kPi 1 = .ok (.ifCond .lt 8, 3) := by decide +kernel
theorem dPi4 : decode kPi 4 = .ok (.iload_n 0, 1) := by decide +kernel
theorem dPi5 : decode kPi 5 = .ok (.iload_n 1, 1) := by decide +kernel
theorem dPi6 : decode kPi 6 = .ok (.if_icmp .lt 10, 3) := by decide +kernel
theorem dPi16 : decode kPi 16 = .ok (.iload_n 0, 1) := by decide +kernel
theorem dPi17 : decode kPi 17 = .ok (.ireturn, 1) := by decide +kernel
def noA : Nat → Prop := fun _ => False
def PcS (adK adV : Nat → Nat) (av : List Value) : Array Value → State → Prop := va_Pc av (fun U => StrU adK adV noA U U.heap)
theorem PcS_b {adK adV : Nat → Nat} {av : List Value} : FrameBlind (PcS adK adV av) := fun a U g mk q => ⟨q.1, StrU.to (u := U) (U := U.calling g mk a) q.2 (Vm.Alike.refl U.vm) (fun _ _ _ => rfl) (fun _ h => h)⟩
theorem PcS_s {adK adV : Nat → Nat} {s : State} (h : StrU adK adV noA s s.heap) (av : List Value) : PreS s s.heap (PcS adK adV av) av := ⟨PcS_b, fun U hU hW => ⟨rfl, by show StrU adK adV noA U U.heap; rw [hU]; exact h.to hW.alike (fun _ _ _ => rfl) (fun _ h => h)⟩⟩
abbrev wsJ (y : MethodName) (k : ByteArray) (m : Nat) (r : Option FieldType) : List Cond := Cond.code y k m r :: gtbl
theorem wsJ_good {y : MethodName} {k : ByteArray} {m : Nat} {r : Option FieldType} {i : Nat} (h : lw_tbl[i]? = some (Cond.code y k m r)) : GoodIn gtbl (wsJ y k m r) := by
  intro w hw
  rcases List.mem_cons.mp hw with rfl | h2
  · exact gt_good _ (gt_of h rfl)
  · exact gt_good w h2
/-- Preconditions.checkIndex within -/
theorem c_Pi (l : Launch) (i n : Int) (w : Option Nat) (hi : in32 i) (hn : in32 n) (h0 : 0 ≤ i) (h1 : i < n) : Met l yPi (wsJ yPi kPi 3 (some .int)) (k2_rm 0 0) (va_Pc [.int (Int32.ofInt i), .int (Int32.ofInt n), va_rf w] (fun _ => True)) (QcRead (Int32.ofInt i)) 0 0 (fun _ => False) := by
  refine Met.ofW (cc := kPi) (maxL := 3) (ret := some .int) (by decide) rfl ?_
  intro p e s m args below meth c s₁ B hml hv
  obtain ⟨rfl, -⟩ := hv
  have hx := B.exec
  have hb := B.bytes
  have hr := B.returns
  have hlocks := B.notSynchronized
  have hl : lv_has ((lg_sl [.int (Int32.ofInt i), .int (Int32.ofInt n), va_rf w] ++ List.replicate (3 - (lg_sl [.int (Int32.ofInt i), .int (Int32.ofInt n), va_rf w]).length) Slot.unset).toArray) 3 [(0, .int (Int32.ofInt i)), (1, .int (Int32.ofInt n))] := by
    cases w with
    | none => exact lv_sub (lv_entry [.int (Int32.ofInt i), .int (Int32.ofInt n), va_rf none] (n := 3) (Nat.le_of_ble_eq_true rfl)) [0, 1] rfl
    | some t => exact lv_sub (lv_entry [.int (Int32.ofInt i), .int (Int32.ofInt n), va_rf (some t)] (n := 3) (Nat.le_of_ble_eq_true rfl)) [0, 1] rfl
  rw [lg_entry_eq]
  generalize (lg_sl [.int (Int32.ofInt i), .int (Int32.ofInt n), va_rf w] ++ List.replicate (3 - (lg_sl [.int (Int32.ofInt i), .int (Int32.ofInt n), va_rf w]).length) Slot.unset).toArray = ls at hl ⊢
  refine lv_iload_n hx hb dPi0 rfl (lv_at hl 0 rfl) ?_
  refine lv_if_lt (tgt := 9) hx hb dPi1 (by decide) (fun q => absurd q ?_) (fun _ => ?_)
  · rw [show (0 : Int32) = Int32.ofInt 0 from rfl, lt32 hi z32]
    omega
  refine lv_iload_n hx hb dPi4 rfl (lv_at hl 0 rfl) ?_
  refine lv_iload_n hx hb dPi5 rfl (lv_at hl 1 rfl) ?_
  refine lv_icmp_lt (tgt := 16) hx hb dPi6 (by decide) (fun _ => ?_) (fun q => absurd ((lt32 hi hn).mpr h1) q)
  refine lv_iload_n hx hb dPi16 rfl (lv_at hl 0 rfl) ?_
  exact W.iret hx hb hr (fun t ht _ => ⟨rfl, ht⟩) (fun _ h => by cases h) dPi17
/-- String.checkIndex within -/
theorem c_Ci (l : Launch) (adK adV : Nat → Nat) (i n : Int) (hi : in32 i) (hn : in32 n) (h0 : 0 ≤ i) (h1 : i < n) : Met l yCi (wsJ yCi kCi 2 none) (k2_rm 1 22) (PcS adK adV [.int (Int32.ofInt i), .int (Int32.ofInt n)]) (va_Sv (fun _ => True)) 0 0 (fun _ => False) := by
  refine Met.ofW (cc := kCi) (maxL := 2) (ret := none) (by decide) rfl ?_
  intro p e s m args below meth c s₁ B hml hv
  obtain ⟨rfl, hStr⟩ := hv
  have hx := B.exec
  have hb := B.bytes
  have hr := B.returns
  have hlocks := B.notSynchronized
  have hts : ∀ w ∈ gtbl, w.before _ s = true := fun w hw => atoms_spec (ws := wsJ yCi kCi 2 none) B.pre w (List.mem_cons_of_mem _ hw)
  have hown : s.vm.findClass "java/lang/String" = some m.cls := findClass_of_methodNamed B.named
  have hl := lv_entry [.int (Int32.ofInt i), .int (Int32.ofInt n)] (n := 2) (Nat.le_of_ble_eq_true rfl)
  rw [lg_entry_eq]
  generalize (lg_sl [.int (Int32.ofInt i), .int (Int32.ofInt n)] ++ List.replicate (2 - (lg_sl [.int (Int32.ofInt i), .int (Int32.ofInt n)]).length) Slot.unset).toArray = ls at hl ⊢
  have hl : lv_has ls 2 [(0, .int (Int32.ofInt i)), (1, .int (Int32.ofInt n))] := hl
  obtain ⟨w, hw⟩ : ∃ w : Option Nat, va_Z "jdk/internal/util/Preconditions" "SIOOBE_FORMATTER" "Ljava/util/function/BiFunction;" (va_rf w) noA s s.heap := by
    rcases hStr.2.2 with q | ⟨t, q⟩
    · exact ⟨none, q⟩
    · exact ⟨some t, q⟩
  refine lv_iload_n hx hb dCi0 rfl (lv_at hl 0 rfl) ?_
  refine lv_iload_n hx hb dCi1 rfl (lv_at hl 1 rfl) ?_
  refine va_gets hx hb hw va_S.rf hown (hts _ (gt_of jw2.2.2.1 rfl)) (fun _ h => h) dCi2 ?_
  refine W.callR (W.runS (As := [.int (Int32.ofInt i), .int (Int32.ofInt n), va_rf w]) (rest := []) ⟨hx, hb, hml, hown, hts⟩ (c_Pi l i n w hi hn h0 h1) ⟨callB_of 3 hts (wsJ_good jc7) rfl rfl rfl (hts _ (gt_of jw2.2.2.2.2.2.2.2.2.2 rfl)) (hts _ (gt_of jw2.2.2.2.1 rfl)) ⟨by decide, by decide, by decide +kernel⟩ ⟨Nat.le_of_ble_eq_true rfl, Nat.le_of_ble_eq_true rfl⟩, hts _ (gt_of jw2.2.2.2.2.1 rfl)⟩ ⟨fun _ _ _ _ q => q, fun U _ _ => ⟨rfl, trivial⟩⟩ rfl rfl hl.1 rfl (lv_room (Nat.le_of_ble_eq_true rfl)) dCi5 ⟨Nat.zero_le _, Nat.zero_le _⟩) ?_
  refine W.eq (g2 := F0 m 8 ls [.int (Int32.ofInt i)]) rfl ?_
  refine lv_pop hx hb dCi8 rfl ?_
  exact W.vret hx hb hr (fun t ht _ => ⟨rfl, trivial, ht⟩) (fun _ h => by cases h) dCi9
/-- coder() -/
theorem c_Co (l : Launch) (adK adV : Nat → Nat) (k : Nat) (hk : k < 7) : Met l yCo (wsJ yCo kCo 1 (some .byte)) (k2_rm 0 0) (PcS adK adV [.ref (adK k)]) (QcRead 0) 0 0 (fun _ => False) := by
  refine Met.ofW (cc := kCo) (maxL := 1) (ret := some .byte) (by decide) rfl ?_
  intro p e s m args below meth c s₁ B hml hv
  obtain ⟨rfl, hStr⟩ := hv
  have hx := B.exec
  have hb := B.bytes
  have hr := B.returns
  have hlocks := B.notSynchronized
  have hts : ∀ w ∈ gtbl, w.before _ s = true := fun w hw => atoms_spec (ws := wsJ yCo kCo 1 (some .byte)) B.pre w (List.mem_cons_of_mem _ hw)
  have hown : s.vm.findClass "java/lang/String" = some m.cls := findClass_of_methodNamed B.named
  have hl := lv_entry [.ref (adK k)] (n := 1) (Nat.le_of_ble_eq_true rfl)
  rw [lg_entry_eq]
  generalize (lg_sl [.ref (adK k)] ++ List.replicate (1 - (lg_sl [.ref (adK k)]).length) Slot.unset).toArray = ls at hl ⊢
  have hl : lv_has ls 1 [(0, .ref (adK k))] := hl
  refine va_gets hx hb hStr.2.1 va_S.rf hown (hts _ (gt_of jw1.2.2.2.1 rfl)) (fun _ h => h) dCo0 ?_
  refine lv_if_eq (tgt := 13) hx hb dCo3 (by decide) (fun q => absurd q (by decide)) (fun _ => ?_)
  refine lv_aload_n hx hb dCo6 rfl (lv_at hl 0 rfl) ?_
  refine vk_getf hx hb (hStr.1.1 k hk).2.1 va_S.rf hown (hts _ (gt_of jw2.2.2.2.2.2.2.1 rfl)) (fun _ h => h) dCo7 ?_
  refine lv_goto (tgt := 14) hx hb dCo10 (by decide) ?_
  exact W.zret (v := 0) (ty := .byte) hx hb hr rfl (fun t ht _ => ⟨rfl, ht⟩) (fun _ h => by cases h) dCo14
/-- isLatin1() -/
theorem c_Il (l : Launch) (adK adV : Nat → Nat) (k : Nat) (hk : k < 7) : Met l yIl (wsJ yIl kIl 1 (some .boolean)) (k2_rm 0 0) (PcS adK adV [.ref (adK k)]) (QcRead 1) 0 0 (fun _ => False) := by
  refine Met.ofW (cc := kIl) (maxL := 1) (ret := some .boolean) (by decide) rfl ?_
  intro p e s m args below meth c s₁ B hml hv
  obtain ⟨rfl, hStr⟩ := hv
  have hx := B.exec
  have hb := B.bytes
  have hr := B.returns
  have hlocks := B.notSynchronized
  have hts : ∀ w ∈ gtbl, w.before _ s = true := fun w hw => atoms_spec (ws := wsJ yIl kIl 1 (some .boolean)) B.pre w (List.mem_cons_of_mem _ hw)
  have hown : s.vm.findClass "java/lang/String" = some m.cls := findClass_of_methodNamed B.named
  have hl := lv_entry [.ref (adK k)] (n := 1) (Nat.le_of_ble_eq_true rfl)
  rw [lg_entry_eq]
  generalize (lg_sl [.ref (adK k)] ++ List.replicate (1 - (lg_sl [.ref (adK k)]).length) Slot.unset).toArray = ls at hl ⊢
  have hl : lv_has ls 1 [(0, .ref (adK k))] := hl
  refine va_gets hx hb hStr.2.1 va_S.rf hown (hts _ (gt_of jw1.2.2.2.1 rfl)) (fun _ h => h) dIl0 ?_
  refine lv_if_eq (tgt := 17) hx hb dIl3 (by decide) (fun q => absurd q (by decide)) (fun _ => ?_)
  refine lv_aload_n hx hb dIl6 rfl (lv_at hl 0 rfl) ?_
  refine vk_getf hx hb (hStr.1.1 k hk).2.1 va_S.rf hown (hts _ (gt_of jw2.2.2.2.2.2.2.1 rfl)) (fun _ h => h) dIl7 ?_
  refine lv_if_ne (tgt := 17) hx hb dIl10 (by decide) (fun q => absurd rfl q) (fun _ => ?_)
  refine lv_iconst (v := 1) hx hb dIl13 (by decide) ?_
  refine lv_goto (tgt := 18) hx hb dIl14 (by decide) ?_
  exact W.zret (v := 1) (ty := .boolean) hx hb hr rfl (fun t ht _ => ⟨rfl, ht⟩) (fun _ h => by cases h) dIl18
set_option maxRecDepth 100000 in
theorem st_len : ∀ k : Nat, k < 7 → lenS.getD k 0 = (slF k).toNat ∧ 0 ≤ slF k ∧ slF k ≤ 10 ∧ Int32.ofNat (lenS.getD k 0) >>> ((0 : Int32) &&& 31) = Int32.ofInt (slF k) := by decide +kernel
set_option maxRecDepth 100000 in
theorem st_chr : ∀ k : Nat, k < 7 → ∀ j : Nat, j < lenS.getD k 0 → ((((bytS.getD k []).getD j 0) &&& (Int16.ofInt 255).toInt32).toUInt32 % 65536).toInt32 = Int32.ofInt (scF k j) ∧ narrow .char (.int (Int32.ofInt (scF k j))) = .int (Int32.ofInt (scF k j)) := by decide +kernel
/-- length() -/
theorem c_Le (l : Launch) (adK adV : Nat → Nat) (k : Nat) (hk : k < 7) : Met l yLe (wsJ yLe kLe 1 (some .int)) (k2_rm 1 20) (PcS adK adV [.ref (adK k)]) (QcRead (Int32.ofInt (slF k))) 0 0 (fun _ => False) := by
  refine Met.ofW (cc := kLe) (maxL := 1) (ret := some .int) (by decide) rfl ?_
  intro p e s m args below meth c s₁ B hml hv
  obtain ⟨rfl, hStr⟩ := hv
  have hx := B.exec
  have hb := B.bytes
  have hr := B.returns
  have hlocks := B.notSynchronized
  have hts : ∀ w ∈ gtbl, w.before _ s = true := fun w hw => atoms_spec (ws := wsJ yLe kLe 1 (some .int)) B.pre w (List.mem_cons_of_mem _ hw)
  have hown : s.vm.findClass "java/lang/String" = some m.cls := findClass_of_methodNamed B.named
  have hl := lv_entry [.ref (adK k)] (n := 1) (Nat.le_of_ble_eq_true rfl)
  rw [lg_entry_eq]
  generalize (lg_sl [.ref (adK k)] ++ List.replicate (1 - (lg_sl [.ref (adK k)]).length) Slot.unset).toArray = ls at hl ⊢
  have hl : lv_has ls 1 [(0, .ref (adK k))] := hl
  obtain ⟨o1, o2, o3, o4⟩ := hStr.1.1 k hk
  refine lv_aload_n hx hb dLe0 rfl (lv_at hl 0 rfl) ?_
  refine vk_getf hx hb o3 va_S.rf hown (hts _ (gt_of jw2.2.2.2.2.2.1 rfl)) (fun _ h => h) dLe1 ?_
  refine va_tlen hx hb o4 va_S.rf rfl dLe4 ?_
  refine lv_aload_n hx hb dLe5 rfl (lv_at hl 0 rfl) ?_
  have hpre := PcS_s hStr [.ref (adK k)]
  refine W.callR (W.runV (C := "java/lang/String") (As := []) (rest := [.int (Int32.ofNat (lenS.getD k 0))]) ⟨hx, hb, hml, hown, hts⟩ (c_Co l adK adV k hk) ⟨callB_of 0 hts (wsJ_good jc1) rfl rfl rfl (hts _ (gt_of jw2.2.2.2.2.2.2.2.1 rfl)) (hts _ (gt_of jw1.1 rfl)) ⟨by decide, by decide, by decide +kernel⟩ ⟨Nat.le_of_ble_eq_true rfl, Nat.le_of_ble_eq_true rfl⟩, hts _ (gt_of jw1.2.1 rfl), hts _ (gt_of jw1.2.2.1 rfl)⟩ ⟨hpre.1, vk_recv hStr.1 hk va_S.rf, hpre.2⟩ rfl rfl hl.1 rfl (lv_room (Nat.le_of_ble_eq_true rfl)) dLe6 ⟨Nat.zero_le _, Nat.zero_le _⟩) ?_
  refine W.eq (g2 := F0 m 9 ls [.int 0, .int (Int32.ofNat (lenS.getD k 0))]) rfl ?_
  refine lv_ishr hx hb dLe9 ?_
  rw [(st_len k hk).2.2.2]
  exact W.iret hx hb hr (fun t ht _ => ⟨rfl, ht⟩) (fun _ h => by cases h) dLe10
/-- StringLatin1.charAt within -/
theorem c_Lc (l : Launch) (adK adV : Nat → Nat) (k j : Nat) (hk : k < 7) (hj : j < lenS.getD k 0) : Met l yLc (wsJ yLc kLc 2 (some .char)) (k2_rm 2 43) (PcS adK adV [.ref (adV k), .int (Int32.ofInt j)]) (QcRead (Int32.ofInt (scF k j))) 0 0 (fun _ => False) := by
  refine Met.ofW (cc := kLc) (maxL := 2) (ret := some .char) (by decide) rfl ?_
  intro p e s m args below meth c s₁ B hml hv
  obtain ⟨rfl, hStr⟩ := hv
  have hx := B.exec
  have hb := B.bytes
  have hr := B.returns
  have hlocks := B.notSynchronized
  have hts : ∀ w ∈ gtbl, w.before _ s = true := fun w hw => atoms_spec (ws := wsJ yLc kLc 2 (some .char)) B.pre w (List.mem_cons_of_mem _ hw)
  have hown : s.vm.findClass "java/lang/StringLatin1" = some m.cls := findClass_of_methodNamed B.named
  have hl := lv_entry [.ref (adV k), .int (Int32.ofInt j)] (n := 2) (Nat.le_of_ble_eq_true rfl)
  rw [lg_entry_eq]
  generalize (lg_sl [.ref (adV k), .int (Int32.ofInt j)] ++ List.replicate (2 - (lg_sl [.ref (adV k), .int (Int32.ofInt j)]).length) Slot.unset).toArray = ls at hl ⊢
  have hl : lv_has ls 2 [(0, .ref (adV k)), (1, .int (Int32.ofInt j))] := hl
  obtain ⟨o1, o2, o3, o4⟩ := hStr.1.1 k hk
  obtain ⟨s1, s2, s3, s4⟩ := st_len k hk
  have hj32 : in32 j := by unfold in32; omega
  have hn32 : in32 (lenS.getD k 0 : Nat) := by unfold in32; omega
  refine lv_iload_n hx hb dLc0 rfl (lv_at hl 1 rfl) ?_
  refine lv_aload_n hx hb dLc1 rfl (lv_at hl 0 rfl) ?_
  refine va_tlen hx hb o4 va_S.rf (v := Int32.ofInt ((lenS.getD k 0 : Nat) : Int)) Int32.ofInt_eq_ofNat.symm dLc2 ?_
  refine va_csv (W.runS (As := [.int (Int32.ofInt j), .int (Int32.ofInt ((lenS.getD k 0 : Nat) : Int))]) (rest := []) ⟨hx, hb, hml, hown, hts⟩ (c_Ci l adK adV j (lenS.getD k 0 : Nat) hj32 hn32 (by omega) (by omega)) ⟨callB_of 2 hts (wsJ_good jc6) rfl rfl rfl (hts _ (gt_of jw2.2.2.2.2.2.2.2.1 rfl)) (hts _ (gt_of jw2.1 rfl)) ⟨by decide, by decide, by decide +kernel⟩ ⟨Nat.le_of_ble_eq_true rfl, Nat.le_of_ble_eq_true rfl⟩, hts _ (gt_of jw2.2.1 rfl)⟩ (PcS_s hStr _) rfl rfl hl.1 rfl (lv_room (Nat.le_of_ble_eq_true rfl)) dLc3 ⟨Nat.zero_le _, Nat.zero_le _⟩) (fun _ => ?_)
  refine lv_aload_n hx hb dLc6 rfl (lv_at hl 0 rfl) ?_
  refine lv_iload_n hx hb dLc7 rfl (lv_at hl 1 rfl) ?_
  refine va_tb hx hb o4 va_S.rf (vin hj32 (by omega) (k := ((lenS.getD k 0 : Nat) : Int)) (by omega) (by omega)) rfl dLc8 ?_
  refine lv_sipush hx hb dLc9 rfl ?_
  refine lv_iand hx hb dLc12 ?_
  refine lv_i2c (v := Int32.ofInt (scF k j)) hx hb dLc13 ?_ ?_
  · rw [nc32 hj32, Int.toNat_natCast]
    exact (st_chr k hk j hj).1
  exact W.zret (ty := .char) hx hb hr (st_chr k hk j hj).2 (fun t ht _ => ⟨rfl, ht⟩) (fun _ h => by cases h) dLc14
/-- charAt within -/
theorem c_Ch (l : Launch) (adK adV : Nat → Nat) (k j : Nat) (hk : k < 7) (hj : j < lenS.getD k 0) : Met l yCh (wsJ yCh kCh 2 (some .char)) (k2_rm 3 64) (PcS adK adV [.ref (adK k), .int (Int32.ofInt j)]) (QcRead (Int32.ofInt (scF k j))) 0 0 (fun _ => False) := by
  refine Met.ofW (cc := kCh) (maxL := 2) (ret := some .char) (by decide) rfl ?_
  intro p e s m args below meth c s₁ B hml hv
  obtain ⟨rfl, hStr⟩ := hv
  have hx := B.exec
  have hb := B.bytes
  have hr := B.returns
  have hlocks := B.notSynchronized
  have hts : ∀ w ∈ gtbl, w.before _ s = true := fun w hw => atoms_spec (ws := wsJ yCh kCh 2 (some .char)) B.pre w (List.mem_cons_of_mem _ hw)
  have hown : s.vm.findClass "java/lang/String" = some m.cls := findClass_of_methodNamed B.named
  have hl := lv_entry [.ref (adK k), .int (Int32.ofInt j)] (n := 2) (Nat.le_of_ble_eq_true rfl)
  rw [lg_entry_eq]
  generalize (lg_sl [.ref (adK k), .int (Int32.ofInt j)] ++ List.replicate (2 - (lg_sl [.ref (adK k), .int (Int32.ofInt j)]).length) Slot.unset).toArray = ls at hl ⊢
  have hl : lv_has ls 2 [(0, .ref (adK k)), (1, .int (Int32.ofInt j))] := hl
  obtain ⟨o1, o2, o3, o4⟩ := hStr.1.1 k hk
  refine lv_aload_n hx hb dCh0 rfl (lv_at hl 0 rfl) ?_
  have hpre := PcS_s hStr [.ref (adK k)]
  refine W.callR (W.runV (C := "java/lang/String") (As := []) (rest := []) ⟨hx, hb, hml, hown, hts⟩ (c_Il l adK adV k hk) ⟨callB_of 0 hts (wsJ_good jc4) rfl rfl rfl (hts _ (gt_of jw2.2.2.2.2.2.2.2.1 rfl)) (hts _ (gt_of jw1.2.2.2.2.1 rfl)) ⟨by decide, by decide, by decide +kernel⟩ ⟨Nat.le_of_ble_eq_true rfl, Nat.le_of_ble_eq_true rfl⟩, hts _ (gt_of jw1.2.2.2.2.2.1 rfl), hts _ (gt_of jw1.2.2.2.2.2.2.1 rfl)⟩ ⟨hpre.1, vk_recv hStr.1 hk va_S.rf, hpre.2⟩ rfl rfl hl.1 rfl (lv_room (Nat.le_of_ble_eq_true rfl)) dCh1 ⟨Nat.zero_le _, Nat.zero_le _⟩) ?_
  refine W.eq (g2 := F0 m 4 ls [.int 1]) rfl ?_
  refine lv_if_eq (tgt := 16) hx hb dCh4 (by decide) (fun q => absurd q (by decide)) (fun _ => ?_)
  refine lv_aload_n hx hb dCh7 rfl (lv_at hl 0 rfl) ?_
  refine vk_getf hx hb o3 va_S.rf hown (hts _ (gt_of jw2.2.2.2.2.2.1 rfl)) (fun _ h => h) dCh8 ?_
  refine lv_iload_n hx hb dCh11 rfl (lv_at hl 1 rfl) ?_
  refine W.callR (W.runS (As := [.ref (adV k), .int (Int32.ofInt j)]) (rest := []) ⟨hx, hb, hml, hown, hts⟩ (c_Lc l adK adV k j hk hj) ⟨callB_of 2 hts (wsJ_good jc5) rfl rfl rfl (hts _ (gt_of jw2.2.2.2.2.2.2.2.2.1 rfl)) (hts _ (gt_of jw1.2.2.2.2.2.2.2.1 rfl)) ⟨by decide, by decide, by decide +kernel⟩ ⟨Nat.le_of_ble_eq_true rfl, Nat.le_of_ble_eq_true rfl⟩, hts _ (gt_of jw1.2.2.2.2.2.2.2.2 rfl)⟩ (PcS_s hStr _) rfl rfl hl.1 rfl (lv_room (Nat.le_of_ble_eq_true rfl)) dCh12 ⟨Nat.zero_le _, Nat.zero_le _⟩) ?_
  refine W.eq (g2 := F0 m 15 ls [.int (Int32.ofInt (scF k j))]) rfl ?_
  exact W.zret (ty := .char) hx hb hr (st_chr k hk j hj).2 (fun t ht _ => ⟨rfl, ht⟩) (fun _ h => by cases h) dCh15
theorem pre_S {adK adV : Nat → Nat} {A : Nat → Prop} {s : State} {H : Heap} {locs : List Loc} (hStr : StrU adK adV A s s.heap) (hS : va_S A s.heap H locs) (av : List Value) : PreS s H (PcS adK adV av) av := ⟨PcS_b, fun U hU hW => ⟨rfl, by show StrU adK adV noA U U.heap; rw [hU]; exact hStr.to hW.alike (fun a h1 h2 => hS.2.1 a h1 h2) (fun _ h => h.elim)⟩⟩
theorem s44 : S44 := by
  intro p l e R s mid args below meth c H locs cells slots Q m pc nx a b v ts ls rest adK adV A k hx hb hown hts hStr hS hsz hfr hlo hc hs hI k0 k7 hsum kk
  simp only [okI, Bool.and_eq_true, decide_eq_true_eq] at hI
  obtain ⟨⟨h1, rfl⟩, h2⟩ := hI
  obtain ⟨e, he, h3⟩ := List.any_eq_true.mp h2
  simp only [decide_eq_true_eq] at h3
  have hl := sl_ok e he
  rw [h3.1, h3.2] at hl
  have hk : k.toNat < 7 := by omega
  have hkk : ((k.toNat : Nat) : Int) = k := by omega
  have hpre := pre_S hStr hS [.ref (adK k.toNat)]
  refine W.callR (r := Int32.ofInt (slF k)) (W.runV (C := "java/lang/String") (As := []) (rest := rest) (cc := mcF m) (nL := c.maxLocals) ⟨hx, hb, rfl, hown, hts⟩ (by have q := c_Le l adK adV k.toNat hk; rw [hkk] at q; exact q) ⟨callB_of 0 hts (wsJ_good jc2) rfl rfl rfl (hts _ (gt_of jw2.2.2.2.2.2.2.2.1 rfl)) (hts _ (gt_of hl rfl)) ⟨by decide, by decide, by decide +kernel⟩ ⟨by show 1 + 1 ≤ _; omega, by show 8 + (1 + 11) + 20 ≤ _; omega⟩, hts _ (gt_of jw3.1 rfl), hts _ (gt_of jw3.2.1 rfl)⟩ ⟨hpre.1, vk_recv hStr.1 hk hS, hpre.2⟩ rfl rfl hsz rfl (lv_room hsum) (isI_d h1) ⟨hc, hs⟩) kk
theorem s45 : S45 := by
  intro p l e R s mid args below meth c H locs cells slots Q m pc nx a b v ts ls rest adK adV A k i hx hb hown hts hStr hS hsz hfr hlo hc hs hI k0 k7 i0 i1 hsum kk
  simp only [okI, Bool.and_eq_true, decide_eq_true_eq] at hI
  obtain ⟨⟨h1, rfl⟩, h2⟩ := hI
  obtain ⟨e, he, h3⟩ := List.any_eq_true.mp h2
  simp only [decide_eq_true_eq] at h3
  have hl := sg_ok e he
  rw [h3.1, h3.2] at hl
  have hk : k.toNat < 7 := by omega
  have hkk : ((k.toNat : Nat) : Int) = k := by omega
  have hii : ((i.toNat : Nat) : Int) = i := by omega
  have hj : i.toNat < lenS.getD k.toNat 0 := by
    rw [(st_len k.toNat hk).1, hkk]
    omega
  have hpre := pre_S hStr hS [.ref (adK k.toNat), .int (Int32.ofInt i)]
  refine W.callR (r := Int32.ofInt (scF k i)) (W.runV (C := "java/lang/String") (As := [.int (Int32.ofInt i)]) (rest := rest) (cc := mcF m) (nL := c.maxLocals) ⟨hx, hb, rfl, hown, hts⟩ (by have q := c_Ch l adK adV k.toNat i.toNat hk hj; rw [hkk, hii] at q; exact q) ⟨callB_of 1 hts (wsJ_good jc3) rfl rfl rfl (hts _ (gt_of jw2.2.2.2.2.2.2.2.1 rfl)) (hts _ (gt_of hl rfl)) ⟨by decide, by decide, by decide +kernel⟩ ⟨by show 3 + 1 ≤ _; omega, by show 8 + (2 + 11) + 64 ≤ _; omega⟩, hts _ (gt_of jw3.2.2.1 rfl), hts _ (gt_of jw3.2.2.2 rfl)⟩ ⟨hpre.1, vk_recv hStr.1 hk hS, hpre.2⟩ rfl rfl hsz rfl (lv_room hsum) (isI_d h1) ⟨hc, hs⟩) kk
