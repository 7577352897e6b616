/-! words of the tables, by their places -/
def clF (c : Nat) : vw_C := cl13.getD c ("", TX0, 0)
/-- the words that stay over calls -/
def gtbl : List Cond := lw_tbl.filter goodWord
theorem gt_of {w : Cond} {i : Nat} (h : lw_tbl[i]? = some w) (hg : goodWord w = true) : w ∈ gtbl := List.mem_filter.mpr ⟨List.mem_of_getElem? h, hg⟩
theorem gt_good : GoodIn gtbl gtbl := fun w h => ⟨h, good_of_word (List.mem_filter.mp h).2⟩
theorem gt_tbl {w : Cond} (h : w ∈ gtbl) : w ∈ lw_tbl := (List.mem_filter.mp h).1
set_option maxRecDepth 100000 in
theorem fl_ok : ∀ e ∈ flL, lw_tbl[e.2.2.2.2]? = some (Cond.fieldLink (ownF e.1) e.2.1 ((clF e.2.2.1).2.1 e.2.2.2.1).1 ((clF e.2.2.1).2.1 e.2.2.2.1).2.1 ((clF e.2.2.1).2.1 e.2.2.2.1).2.2.1) ∧ e.2.2.2.1 < (clF e.2.2.1).2.2 ∧ e.2.2.1 < 13 := by decide +kernel
set_option maxRecDepth 100000 in
theorem mk_ok : ∀ e ∈ mkL, lw_tbl[e.2.2.2]? = some (Cond.methodLink (ownF e.1) e.2.1 (myF e.2.2.1)) := by decide +kernel
set_option maxRecDepth 100000 in
theorem cl_ok : ∀ e ∈ clL, lw_tbl[e.2.2.2]? = some (Cond.classLink (ownF e.1) e.2.1 (ownF e.2.2.1)) := by decide +kernel
set_option maxRecDepth 100000 in
theorem ci_ok : ∀ e ∈ ciL, lw_tbl[e.2.2.2]? = some (Cond.constant (ownF e.1) e.2.1 (Int32.ofInt e.2.2.1)) := by decide +kernel
set_option maxRecDepth 100000 in
theorem cj_ok : ∀ e ∈ cjL, lw_tbl[e.2.2.2]? = some (Cond.constantLong (ownF e.1) e.2.1 (Int64.ofInt e.2.2.1)) ∧ -9223372036854775808 ≤ e.2.2.1 ∧ e.2.2.1 ≤ 9223372036854775807 := by decide +kernel
set_option maxRecDepth 100000 in
theorem ob_ok : ∀ e ∈ obL, lw_tbl[e.2.2]? = some (Cond.methodLink (ownF e.1) e.2.1 objectInit) := by decide +kernel
set_option maxRecDepth 100000 in
theorem sl_ok : ∀ e ∈ slL, lw_tbl[e.2.2]? = some (Cond.methodLink (ownF e.1) e.2.1 ⟨"java/lang/String", "length", "()I"⟩) := by decide +kernel
set_option maxRecDepth 100000 in
theorem sg_ok : ∀ e ∈ sgL, lw_tbl[e.2.2]? = some (Cond.methodLink (ownF e.1) e.2.1 ⟨"java/lang/String", "charAt", "(I)C"⟩) := by decide +kernel
set_option maxRecDepth 100000 in
theorem mx_ok : ∀ e ∈ mxL, lw_tbl[e.2.2]? = some (Cond.methodLink (ownF e.1) e.2.1 Lib.Math.max.name) := by decide +kernel
set_option maxRecDepth 100000 in
theorem mn_ok : ∀ e ∈ mnL, lw_tbl[e.2.2]? = some (Cond.methodLink (ownF e.1) e.2.1 Lib.Math.min.name) := by decide +kernel
set_option maxRecDepth 100000 in
theorem ac_ok : ∀ e ∈ acL, lw_tbl[e.2.2]? = some (Cond.methodLink (ownF e.1) e.2.1 arraycopyName) := by decide +kernel
set_option maxRecDepth 100000 in
theorem pi_ok : ∀ m, m < 179 → lw_tbl[(pwF m).2.1]? = some (Cond.initialized (myF m).cls) ∧ (myF m).cls = ownF (moF m) ∧ (myF m).cls ≠ "java/lang/invoke/MethodHandle" ∧ (myF m).cls ≠ "java/lang/invoke/VarHandle" ∧ plainName (myF m).cls = true ∧ mlF m ≤ 40 := by decide +kernel
set_option maxRecDepth 100000 in
theorem ps_ok : ∀ m, m < 179 → (pwF m).2.2.2.2 = 0 → lw_tbl[(pwF m).2.2.1]? = some (Cond.static (myF m)) := by decide +kernel
set_option maxRecDepth 100000 in
theorem pv_ok : ∀ m, m < 179 → (pwF m).2.2.2.2 = 1 → lw_tbl[(pwF m).2.2.1]? = some (Cond.instanceMethod (myF m)) ∧ lw_tbl[(pwF m).2.2.2.1]? = some (Cond.selects (myF m).cls (myF m) (myF m)) ∧ moF m < 13 := by decide +kernel
set_option maxRecDepth 100000 in
theorem pn_ok : ∀ m, m < 179 → (pwF m).2.2.2.2 = 2 → lw_tbl[(pwF m).2.2.1]? = some (Cond.instanceMethod (myF m)) ∧ (myF m).name = "<init>" ∧ mrF m = none ∧ moF m < 13 := by decide +kernel
set_option maxRecDepth 100000 in
theorem cw_ok : ∀ c, c < 13 → (clF c).1 = ownF c ∧ (clF c).2.2 = nfF c ∧ (∀ k, k < (clF c).2.2 → parseFieldDescriptor ((clF c).2.1 k).2.2.1 = some (tyF c k)) := by decide +kernel
theorem cx_ok (c : Nat) (hc : c < 13) : cl13[c]? = some (clF c) := by
  unfold clF
  rw [List.getD_eq_getElem?_getD]
  cases h : cl13[c]? with
  | some x => rfl
  | none => exact absurd (List.getElem?_eq_none_iff.mp h) (by show ¬ 13 ≤ c; omega)
theorem nm_ok (c : Nat) (hc : c < 13) : ∀ a, a < (clF c).2.2 → ∀ b, b < (clF c).2.2 → a ≠ b → ((clF c).2.1 a).2.1 ≠ ((clF c).2.1 b).2.1 := by
  match c, hc with
  | 0, _ => exact nmX0
  | 1, _ => exact nmX1
  | 2, _ => exact nmX2
  | 3, _ => exact nmX3
  | 4, _ => exact nmX4
  | 5, _ => exact nmX5
  | 6, _ => exact nmX6
  | 7, _ => exact nmX7
  | 8, _ => exact nmX8
  | 9, _ => exact nmX9
  | 10, _ => exact nmX10
  | 11, _ => exact nmX11
  | 12, _ => exact nmX12
  | c + 13, h => exact absurd h (by omega)
set_option maxRecDepth 100000 in
theorem uw_ok : ∀ c, c < 13 → ((u_ws (clF c).1 (clF c).2.1 (clF c).2.2).all (fun w => decide (w ∈ lw_tbl) && goodWord w)) = true := by decide +kernel
set_option maxRecDepth 100000 in
theorem ui_ok : ∀ c, c < 13 → Cond.instantiable (ownF c) (nfF c) ∈ lw_tbl ∧ Cond.initialized (ownF c) ∈ lw_tbl := by decide +kernel
set_option maxRecDepth 100000 in
theorem ow_ok : Cond.instanceMethod objectInit ∈ lw_tbl ∧ Cond.code objectInit ⟨#[0xb1]⟩ 1 none ∈ lw_tbl ∧ Cond.arrayClass .int ∈ lw_tbl ∧ Cond.arrayClass .byte ∈ lw_tbl ∧ Cond.arrayClass .boolean ∈ lw_tbl ∧ Cond.native arraycopyName ∈ lw_tbl ∧ Cond.static arraycopyName ∈ lw_tbl ∧ Cond.initialized "java/lang/System" ∈ lw_tbl := by decide +kernel
set_option maxRecDepth 100000 in
theorem mw_ok : Cond.static Lib.Math.max.name ∈ lw_tbl ∧ Cond.static Lib.Math.min.name ∈ lw_tbl ∧ Cond.initialized "java/lang/Math" ∈ lw_tbl ∧ Cond.code Lib.Math.max.name Lib.Math.max.code 2 (some .int) ∈ lw_tbl ∧ Cond.code Lib.Math.min.name Lib.Math.min.code 2 (some .int) ∈ lw_tbl := by decide +kernel
/-- fields' kinds and their types -/
def kTy (t : Nat) : FieldType → Bool := fun ty => match t with
  | 0 => decide (ty = .int)
  | 7 => decide (ty = .boolean)
  | 50 => decide (ty = .array .int)
  | 51 => decide (ty = .array .byte)
  | 52 => decide (ty = .array .boolean)
  | 53 => decide (ty = .array (.object RX3))
  | 54 => decide (ty = .array (.object RX9))
  | t => decide (10 ≤ t ∧ t < 23 ∧ ty = .object (ownF (t - 10)))
set_option maxRecDepth 100000 in
theorem ft_ok : ∀ c, c < 13 → ∀ j, j < nfF c → kTy (ftF c j) (tyF c j) = true := by decide +kernel
set_option maxRecDepth 100000 in
theorem sh_ok : ∀ k, k < 138 → (10 ≤ shF k ∧ shF k < 23) ∨ (50 ≤ shF k ∧ shF k < 55 ∧ 0 ≤ lnF k ∧ lnF k ≤ 1000) := by decide +kernel
theorem ins_ok {m pc op nx a b : Nat} {v : Int} {ts : List (Int × Nat)} (h : insF m pc = (op, nx, a, b, v, ts)) (ho : ¬ op = 99) : okI m pc (op, nx, a, b, v, ts) = true ∧ m < 180 := by
  unfold insF at h
  cases hl : (insL.getD m []).lookup pc with
  | none =>
    rw [hl] at h
    simp only [Option.getD_none, Prod.mk.injEq] at h
    exact absurd h.1.symm ho
  | some i =>
    rw [hl] at h
    simp only [Option.getD_some] at h
    subst h
    have hm : m < 180 := by
      rcases Nat.lt_or_ge m 180 with q | q
      · exact q
      · have h0 : insL.getD m [] = [] := by
          rw [List.getD_eq_getElem?_getD, List.getElem?_eq_none (by exact q)]
          rfl
        rw [h0] at hl
        cases hl
    refine ⟨?_, hm⟩
    have h1 := ok_all m hm
    rw [List.all_eq_true] at h1
    have h2 : (pc, ((op, nx, a, b, v, ts) : Ins)) ∈ insL.getD m [] := by
      generalize insL.getD m [] = l at hl
      induction l with
      | nil => cases hl
      | cons q l ih =>
        obtain ⟨x, y⟩ := q
        rw [List.lookup_cons] at hl
        by_cases hx : pc == x
        · rw [hx] at hl
          simp only [beq_iff_eq] at hx
          cases hl
          rw [hx]
          exact List.mem_cons_self
        · simp only [hx] at hl
          exact List.mem_cons_of_mem _ (ih hl)
    exact h1 _ h2
