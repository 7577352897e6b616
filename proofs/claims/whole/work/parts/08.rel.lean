/-! how the small machine's state lies in the heap -/
def in32 (v : Int) : Prop := -2147483648 ≤ v ∧ v ≤ 2147483647
def in64 (v : Int) : Prop := -9223372036854775808 ≤ v ∧ v ≤ 9223372036854775807
theorem o32 {v : Int} (h : in32 v) : (Int32.ofInt v).toInt = v := by
  unfold in32 at h
  rw [Int32.toInt_ofInt]
  show v.bmod 4294967296 = v
  exact Int.bmod_eq_of_le (by omega) (by omega)
theorem o64 {v : Int} (h : in64 v) : (Int64.ofInt v).toInt = v := by
  unfold in64 at h
  rw [Int64.toInt_ofInt]
  show v.bmod 18446744073709551616 = v
  exact Int.bmod_eq_of_le (by omega) (by omega)
theorem t32 (x : Int32) : in32 x.toInt := ⟨Int32.le_toInt x, by have := Int32.toInt_lt x; omega⟩
theorem t64 (x : Int64) : in64 x.toInt := ⟨Int64.le_toInt x, by have := Int64.toInt_lt x; omega⟩
theorem r32 (x : Int32) : Int32.ofInt x.toInt = x := Int32.ofInt_toInt x
theorem r64 (x : Int64) : Int64.ofInt x.toInt = x := Int64.ofInt_toInt x
theorem lt32 {a b : Int} (ha : in32 a) (hb : in32 b) : Int32.ofInt a < Int32.ofInt b ↔ a < b := by rw [Int32.lt_iff_toInt_lt, o32 ha, o32 hb]
theorem le32 {a b : Int} (ha : in32 a) (hb : in32 b) : Int32.ofInt a ≤ Int32.ofInt b ↔ a ≤ b := by rw [Int32.le_iff_toInt_le, o32 ha, o32 hb]
theorem eq32 {a b : Int} (ha : in32 a) (hb : in32 b) : Int32.ofInt a = Int32.ofInt b ↔ a = b := by rw [← Int32.toInt_inj, o32 ha, o32 hb]
theorem z32 : in32 0 := by unfold in32; omega
theorem nc32 {i : Int} (h : in32 i) : (Int32.ofInt i).toNatClampNeg = i.toNat := by
  show (Int32.ofInt i).toInt.toNat = i.toNat
  rw [o32 h]
theorem vin {i : Int} {n : Nat} {k : Int} (h : in32 i) (h0 : 0 ≤ i) (h1 : i < k) (hk : k.toNat = n) : vp_in (Int32.ofInt i) n := by
  rw [vp_in_iff, o32 h]
  omega
def okR (n t : Nat) (v : Int) : Prop := v = -1 ∨ (0 ≤ v ∧ v < n ∧ shF v.toNat = t)
def okV (n : Nat) (x : AV) : Prop := (x.1 = 0 ∧ in32 x.2) ∨ (x.1 = 2 ∧ in64 x.2) ∨ (x.1 = 3 ∧ 0 ≤ x.2 ∧ x.2 < 7) ∨ x.1 = 5 ∨ (10 ≤ x.1 ∧ okR n x.1 x.2)
def cnV (ad adK : Nat → Nat) (b0 : Nat) (x : AV) : Value := if x.1 = 0 then .int (Int32.ofInt x.2) else if x.1 = 2 then .long (Int64.ofInt x.2) else if x.1 = 3 then .ref (adK x.2.toNat) else if x.1 = 5 then .ref b0 else if x.2 < 0 then .null else .ref (ad x.2.toNat)
def fldV (ad : Nat → Nat) (t : Nat) (v : Int) : Value := if 10 ≤ t then (if v < 0 then .null else .ref (ad v.toNat)) else .int (Int32.ofInt v)
def elT (t : Nat) : Nat := if t = 53 then 13 else 19
def encC (ad : Nat → Nat) (C5 : Nat → ClassId) (σ : Mem) (k : Nat) : va_E :=
  if shF k < 50 then .inr (shF k - 10, (List.range (nfF (shF k - 10))).map (fun (j : Nat) => fldV ad (ftF (shF k - 10) j) (σ k j)))
  else if shF k < 53 then .inl (C5 (shF k), (lnF k).toNat, .inl (fun (j : Nat) => Int32.ofInt (σ k j)))
  else .inl (C5 (shF k), (lnF k).toNat, .inr (.inr (.inr (.inr (fun (j : Nat) => if (j : Int) < lnF k ∧ 0 ≤ σ k j then some (ad (σ k j).toNat) else none)))))
def wsM (ad : Nat → Nat) (C5 : Nat → ClassId) (n : Nat) (σ : Mem) : va_W := (List.range n).map (fun k => (ad k, encC ad C5 σ k))
def okM (n : Nat) (σ : Mem) : Prop := n ≤ 138 ∧ (∀ j : Int, in32 (σ (-2) j)) ∧ ∀ k : Nat, k < n → (shF k < 50 → ∀ j : Nat, j < nfF (shF k - 10) → (ftF (shF k - 10) j < 10 → in32 (σ k j)) ∧ (10 ≤ ftF (shF k - 10) j → okR n (ftF (shF k - 10) j) (σ k j))) ∧ (50 ≤ shF k → shF k < 53 → ∀ j : Int, 0 ≤ j → j < lnF k → in32 (σ k j)) ∧ (53 ≤ shF k → ∀ j : Int, 0 ≤ j → j < lnF k → okR n (elT (shF k)) (σ k j))
theorem okR.mono {n n' t : Nat} {v : Int} (h : okR n t v) (hn : n ≤ n') : okR n' t v := by
  rcases h with h | ⟨h1, h2, h3⟩
  · exact Or.inl h
  · exact Or.inr ⟨h1, by omega, h3⟩
theorem okV.mono {n n' : Nat} {x : AV} (h : okV n x) (hn : n ≤ n') : okV n' x := by
  rcases h with h | h | h | h | ⟨h, h2⟩
  · exact Or.inl h
  · exact Or.inr (Or.inl h)
  · exact Or.inr (Or.inr (Or.inl h))
  · exact Or.inr (Or.inr (Or.inr (Or.inl h)))
  · exact Or.inr (Or.inr (Or.inr (Or.inr ⟨h, h2.mono hn⟩)))
theorem okV.int {n : Nat} {v : Int} (h : okV n (0, v)) : in32 v := by
  rcases h with ⟨-, h⟩ | ⟨h, -⟩ | ⟨h, -⟩ | h | ⟨h, -⟩
  · exact h
  all_goals (simp only at h; omega)
theorem okV.long {n : Nat} {v : Int} (h : okV n (2, v)) : in64 v := by
  rcases h with ⟨h, -⟩ | ⟨-, h⟩ | ⟨h, -⟩ | h | ⟨h, -⟩
  · simp only at h; omega
  · exact h
  all_goals (simp only at h; omega)
theorem okV.str {n : Nat} {v : Int} (h : okV n (3, v)) : 0 ≤ v ∧ v < 7 := by
  rcases h with ⟨h, -⟩ | ⟨h, -⟩ | ⟨-, h⟩ | h | ⟨h, -⟩
  · simp only at h; omega
  · simp only at h; omega
  · exact h
  all_goals (simp only at h; omega)
theorem okV.ref {n t : Nat} {v : Int} (h : okV n (t, v)) (ht : 10 ≤ t) : okR n t v := by
  rcases h with ⟨h, -⟩ | ⟨h, -⟩ | ⟨h, -⟩ | h | ⟨-, h⟩
  · simp only at h; omega
  · simp only at h; omega
  · simp only at h; omega
  · simp only at h; omega
  · exact h
theorem okV.i {n : Nat} {v : Int} (h : in32 v) : okV n (0, v) := Or.inl ⟨rfl, h⟩
theorem okV.l {n : Nat} {v : Int} (h : in64 v) : okV n (2, v) := Or.inr (Or.inl ⟨rfl, h⟩)
theorem okV.r {n t : Nat} {v : Int} (ht : 10 ≤ t) (h : okR n t v) : okV n (t, v) := Or.inr (Or.inr (Or.inr (Or.inr ⟨ht, h⟩)))
theorem cn_i (ad adK : Nat → Nat) (b0 : Nat) (v : Int) : cnV ad adK b0 (0, v) = .int (Int32.ofInt v) := rfl
theorem cn_l (ad adK : Nat → Nat) (b0 : Nat) (v : Int) : cnV ad adK b0 (2, v) = .long (Int64.ofInt v) := rfl
theorem cn_s (ad adK : Nat → Nat) (b0 : Nat) (v : Int) : cnV ad adK b0 (3, v) = .ref (adK v.toNat) := rfl
theorem cn_x (ad adK : Nat → Nat) (b0 : Nat) (v : Int) : cnV ad adK b0 (5, v) = .ref b0 := rfl
theorem cn_r {ad adK : Nat → Nat} {b0 t : Nat} {v : Int} (ht : 10 ≤ t) (h : 0 ≤ v) : cnV ad adK b0 (t, v) = .ref (ad v.toNat) := by
  unfold cnV
  rw [if_neg (by simp only; omega), if_neg (by simp only; omega), if_neg (by simp only; omega), if_neg (by simp only; omega), if_neg (by simp only; omega)]
theorem cn_n {ad adK : Nat → Nat} {b0 t : Nat} {v : Int} (ht : 10 ≤ t) (h : v < 0) : cnV ad adK b0 (t, v) = .null := by
  unfold cnV
  rw [if_neg (by simp only; omega), if_neg (by simp only; omega), if_neg (by simp only; omega), if_neg (by simp only; omega), if_pos (by simp only; omega)]
theorem cn_q {ad adK : Nat → Nat} {b0 t : Nat} {v : Int} (ht : 10 ≤ t) : cnV ad adK b0 (t, v) = va_rf (if v < 0 then none else some (ad v.toNat)) := by
  by_cases h : v < 0
  · rw [cn_n ht h, if_pos h]; rfl
  · rw [cn_r ht (by omega), if_neg h]; rfl
theorem cn_cat (ad adK : Nat → Nat) (b0 : Nat) (x : AV) : (cnV ad adK b0 x).category = catM x := by
  unfold cnV catM
  split
  · rename_i h; rw [if_neg (by omega)]; rfl
  · split
    · rfl
    · split
      · rfl
      · split
        · rfl
        · split <;> rfl
theorem cn_sum (ad adK : Nat → Nat) (b0 : Nat) (st : List AV) : (((st.map (cnV ad adK b0)).map fun v => v.category)).sum = (st.map catM).sum := by
  rw [List.map_map]
  congr 1
  apply List.map_congr_left
  intro x _
  exact cn_cat ad adK b0 x
/-- another assignment of addresses that agrees on the cells there -/
theorem cn_ad {ad ad' adK : Nat → Nat} {b0 n : Nat} {x : AV} (h : okV n x) (ha : ∀ k, k < n → ad' k = ad k) : cnV ad' adK b0 x = cnV ad adK b0 x := by
  obtain ⟨t, v⟩ := x
  rcases h with ⟨h, -⟩ | ⟨h, -⟩ | ⟨h, -⟩ | h | ⟨h, h2⟩
  · simp only at h; subst h; rfl
  · simp only at h; subst h; rfl
  · simp only at h; subst h; rfl
  · simp only at h; subst h; rfl
  · simp only at h h2
    rcases h2 with h2 | ⟨h2, h3, -⟩
    · rw [cn_n h (by omega), cn_n h (by omega)]
    · rw [cn_r h h2, cn_r h h2, ha _ (by omega)]
theorem cn_ads {ad ad' adK : Nat → Nat} {b0 n : Nat} {st : List AV} (h : ∀ x ∈ st, okV n x) (ha : ∀ k, k < n → ad' k = ad k) : st.map (cnV ad' adK b0) = st.map (cnV ad adK b0) := List.map_congr_left (fun x hx => cn_ad (h x hx) ha)
theorem ws_get {ad : Nat → Nat} {C5 : Nat → ClassId} {n k : Nat} {σ : Mem} (h : k < n) : (wsM ad C5 n σ)[k]? = some (ad k, encC ad C5 σ k) := by
  unfold wsM
  rw [List.getElem?_map, List.getElem?_range h]
  rfl
theorem ws_len {ad : Nat → Nat} {C5 : Nat → ClassId} {n : Nat} {σ : Mem} : (wsM ad C5 n σ).length = n := by unfold wsM; simp
theorem ws_none {ad : Nat → Nat} {C5 : Nat → ClassId} {n k : Nat} {σ : Mem} (h : n ≤ k) : (wsM ad C5 n σ)[k]? = none := List.getElem?_eq_none (by rw [ws_len]; exact h)
theorem enc_cg {ad : Nat → Nat} {C5 : Nat → ClassId} {k : Nat} {σ σ' : Mem} (h : ∀ x, σ' k x = σ k x) : encC ad C5 σ' k = encC ad C5 σ k := by
  unfold encC
  simp only [h]
theorem ws_set {ad : Nat → Nat} {C5 : Nat → ClassId} {n k : Nat} {σ σ' : Mem} {e : va_E} (hk : k < n) (he : encC ad C5 σ' k = e) (h : ∀ k', k' < n → ¬ k' = k → ∀ x, σ' k' x = σ k' x) : (wsM ad C5 n σ).set k (ad k, e) = wsM ad C5 n σ' := by
  apply List.ext_getElem?
  intro i
  rw [List.getElem?_set]
  by_cases hi : k = i
  · subst hi
    rw [if_pos rfl, if_pos (by rw [ws_len]; exact hk), ws_get hk, he]
  · rw [if_neg hi]
    rcases Nat.lt_or_ge i n with q | q
    · rw [ws_get q, ws_get q, enc_cg (h i q (fun z => hi z.symm))]
    · rw [ws_none q, ws_none q]
theorem ws_push {ad ad' : Nat → Nat} {C5 : Nat → ClassId} {n q : Nat} {σ σ' : Mem} {e : va_E} (hq : ad' n = q) (ha : ∀ k, k < n → ad' k = ad k) (he : encC ad' C5 σ' n = e) (h : ∀ k, k < n → encC ad' C5 σ' k = encC ad C5 σ k) : wsM ad C5 n σ ++ [(q, e)] = wsM ad' C5 (n + 1) σ' := by
  unfold wsM
  rw [List.range_succ, List.map_append, List.map_cons, List.map_nil, hq, he]
  congr 1
  apply List.map_congr_left
  intro k hk
  have hk := List.mem_range.mp hk
  rw [ha k hk, h k hk]
/-- the cells there, with another assignment of addresses -/
theorem enc_ad {ad ad' : Nat → Nat} {C5 : Nat → ClassId} {n k : Nat} {σ σ' : Mem} (hM : okM n σ) (hk : k < n) (ha : ∀ k, k < n → ad' k = ad k) (hs : ∀ x, σ' k x = σ k x) : encC ad' C5 σ' k = encC ad C5 σ k := by
  rw [enc_cg (ad := ad') hs]
  obtain ⟨h138, -, h⟩ := hM
  obtain ⟨h1, -, h3⟩ := h k hk
  unfold encC
  split
  · rename_i hq
    congr 2
    apply List.map_congr_left
    intro j hj
    have hj := List.mem_range.mp hj
    unfold fldV
    split
    · rename_i ht
      rcases (h1 hq j hj).2 ht with e | ⟨e1, e2, -⟩
      · rw [e]; rfl
      · rw [if_neg (by omega), if_neg (by omega), ha _ (by omega)]
    · rfl
  · split
    · rfl
    · rename_i q1 q2
      simp only [Sum.inl.injEq, Prod.mk.injEq, Sum.inr.injEq, true_and]
      funext j
      split
      · rename_i hj
        rcases h3 (by omega) (j : Int) (by omega) hj.1 with e | ⟨e1, e2, -⟩
        · rw [e] at hj; omega
        · rw [ha _ (by omega)]
      · rfl
theorem enc_obj {ad : Nat → Nat} {C5 : Nat → ClassId} {k c : Nat} {σ : Mem} (h : shF k = 10 + c) (hc : c < 13) : encC ad C5 σ k = .inr (c, (List.range (nfF c)).map (fun (j : Nat) => fldV ad (ftF c j) (σ k j))) := by
  unfold encC
  rw [if_pos (by omega), h, Nat.add_sub_cancel_left]
theorem enc_arr {ad : Nat → Nat} {C5 : Nat → ClassId} {k t : Nat} {σ : Mem} (h : shF k = t) (h1 : 50 ≤ t) (h2 : t < 53) : encC ad C5 σ k = .inl (C5 t, (lnF k).toNat, .inl (fun (j : Nat) => Int32.ofInt (σ k j))) := by
  unfold encC
  rw [if_neg (by omega), if_pos (by omega), h]
theorem enc_rar {ad : Nat → Nat} {C5 : Nat → ClassId} {k t : Nat} {σ : Mem} (h : shF k = t) (h1 : 53 ≤ t) : encC ad C5 σ k = .inl (C5 t, (lnF k).toNat, .inr (.inr (.inr (.inr (fun (j : Nat) => if (j : Int) < lnF k ∧ 0 ≤ σ k j then some (ad (σ k j).toNat) else none))))) := by
  unfold encC
  rw [if_neg (by omega), if_neg (by omega), h]
theorem wr_ne {σ : Mem} {k j v a b : Int} (h : ¬ a = k) : wrM σ k j v a b = σ a b := if_neg (fun q => h q.1)
theorem enc_put {ad : Nat → Nat} {C5 : Nat → ClassId} {k c j : Nat} {σ : Mem} {v : Int} (h : shF k = 10 + c) (hc : c < 13) : encC ad C5 (wrM σ k j v) k = .inr (c, ((List.range (nfF c)).map (fun (j : Nat) => fldV ad (ftF c j) (σ k j))).set j (fldV ad (ftF c j) v)) := by
  rw [enc_obj h hc]
  congr 2
  apply List.ext_getElem?
  intro i
  rw [List.getElem?_set, List.getElem?_map]
  by_cases hi : j = i
  · subst hi
    rw [if_pos rfl]
    by_cases hj : j < nfF c
    · rw [List.getElem?_range hj, if_pos (by simpa using hj)]
      simp [wrM]
    · rw [if_neg (by simpa using hj), List.getElem?_eq_none (by simpa using hj)]
      rfl
  · rw [if_neg hi, List.getElem?_map]
    by_cases hj : i < nfF c
    · rw [List.getElem?_range hj]
      simp only [Option.map_some, Option.some.injEq]
      congr 1
      unfold wrM
      rw [if_neg]
      intro q
      exact hi (by omega)
    · rw [List.getElem?_eq_none (by simpa using hj)]
      rfl
theorem enc_ast {ad : Nat → Nat} {C5 : Nat → ClassId} {k t : Nat} {σ : Mem} {i v : Int} (h : shF k = t) (h1 : 50 ≤ t) (h2 : t < 53) (hi : 0 ≤ i) : encC ad C5 (wrM σ k i v) k = .inl (C5 t, (lnF k).toNat, .inl (upd (fun (j : Nat) => Int32.ofInt (σ k j)) i.toNat (Int32.ofInt v))) := by
  rw [enc_arr h h1 h2]
  simp only [Sum.inl.injEq, Prod.mk.injEq, true_and]
  funext j
  unfold upd wrM
  by_cases hj : j = i.toNat
  · rw [if_pos hj, if_pos ⟨rfl, by omega⟩]
  · rw [if_neg hj, if_neg (by intro q; omega)]
theorem enc_rst {ad : Nat → Nat} {C5 : Nat → ClassId} {k t : Nat} {σ : Mem} {i v : Int} (h : shF k = t) (h1 : 53 ≤ t) (hi : 0 ≤ i) (hl : i < lnF k) (hv : 0 ≤ v) : encC ad C5 (wrM σ k i v) k = .inl (C5 t, (lnF k).toNat, .inr (.inr (.inr (.inr (va_up (fun (j : Nat) => if (j : Int) < lnF k ∧ 0 ≤ σ k j then some (ad (σ k j).toNat) else none) i.toNat (some (ad v.toNat))))))) := by
  rw [enc_rar h h1]
  simp only [Sum.inl.injEq, Prod.mk.injEq, Sum.inr.injEq, true_and]
  funext j
  unfold va_up
  by_cases hj : j = i.toNat
  · have e1 : wrM σ k i v k j = v := if_pos ⟨rfl, by omega⟩
    rw [if_pos hj, e1, if_pos ⟨by omega, hv⟩]
  · have e1 : wrM σ k i v k j = σ k j := if_neg (by intro q; omega)
    rw [if_neg hj, e1]
