/-! calls: a method's run as its contract -/
theorem EnvU.same {D : va_G} {C5 : Nat → ClassId} {adK : Nat → Nat} {u U : State} (h : U.vm = u.vm) (hE : EnvU D C5 adK u) : EnvU D C5 adK U := by
  obtain ⟨h1, h2, h3, h4, h5⟩ := hE
  have hal : u.vm.Alike U.vm := by rw [h]; exact Vm.Alike.refl u.vm
  refine ⟨va_K.moved hal h1, fun w hw => ?_, va_AO.moved hal h3, va_AO.moved hal h4, fun e he => (h5 e he).same h⟩
  obtain ⟨e, he, rfl⟩ := List.mem_map.mp hw
  exact (h2 _ hw).same rfl h.symm
theorem EnvU.warm {D : va_G} {C5 : Nat → ClassId} {adK : Nat → Nat} {s U : State} (hW : s.WarmedH U.vm) (hE : EnvU D C5 adK s) : EnvU D C5 adK U := by
  obtain ⟨h1, h2, h3, h4, h5⟩ := hE
  refine ⟨va_K.moved hW.alike h1, fun w hw => ?_, va_AO.moved hW.alike h3, va_AO.moved hW.alike h4, fun e he => (h5 e he).warm hW⟩
  obtain ⟨e, he, rfl⟩ := List.mem_map.mp hw
  exact va_Nw.warmM hW (h2 _ hw)
theorem StrU.to {adK adV : Nat → Nat} {A B : Nat → Prop} {u U : State} {H H1 : Heap} (h : StrU adK adV A u H) (hvm : u.vm.Alike U.vm) (hq : ∀ a : Nat, a < H.size → ¬ A a → H1[a]? = H[a]?) (hAB : ∀ q, B q → A q) : StrU adK adV B U H1 := ⟨((h.1.moved hvm).kept hq).narrow hAB, ((h.2.1.moved hvm).kept hq).narrow hAB, ((h.2.2.moved hvm).kept hq).narrow hAB⟩
def PcM (D : va_G) (C5 : Nat → ClassId) (ad adK adV : Nat → Nat) (b0 : Nat) (σ : Mem) (n sz : Nat) (as : List AV) : Array Value → State → Prop := va_Pc (as.map (cnV ad adK b0)) (fun U => U.heap.size = sz ∧ va_P D cl13 (wsM ad C5 n σ) U.heap ∧ va_D (fun _ => True) (wsM ad C5 n σ) ∧ EnvU D C5 adK U ∧ StrU adK adV (va_A (wsM ad C5 n σ) sz) U U.heap)
def QcM (D : va_G) (C5 : Nat → ClassId) (ad adK : Nat → Nat) (b0 : Nat) (σ : Mem) (n sz : Nat) (r : Option AV) (σ' : Mem) (n' : Nat) : Array Value → State → Outcome → State → Prop := fun _ st oc t => (∃ ad' : Nat → Nat, (∀ k, k < n → ad' k = ad k) ∧ oc = .returned (r.map (cnV ad' adK b0)) ∧ va_P D cl13 (wsM ad' C5 n' σ') t.heap ∧ va_D (va_A (wsM ad C5 n σ) sz) (wsM ad' C5 n' σ')) ∧ va_F (va_A (wsM ad C5 n σ) sz) st t
def rmD (d mc ms : Nat) : Room := { frames := 2 * d + 4, cells := mc, slots := ms, locals := 60 * d + 100 }
abbrev wsY (y : Nat) : List Cond := Cond.code (myF y) (mcF y) (mlF y) (mrF y) :: gtbl
theorem lv_args_mem {vs : List Value} (h : ∀ v ∈ vs, ¬ v.category = 2) : ∀ (k i : Nat) (v : Value), vs[i]? = some v → (k + i, v) ∈ lv_args k vs := by
  induction vs with
  | nil => intro k i v hv; simp at hv
  | cons w vs ih =>
    intro k i v hv
    rw [lv_args, if_neg (h w List.mem_cons_self)]
    cases i with
    | zero =>
      simp only [List.getElem?_cons_zero, Option.some.injEq] at hv
      rw [hv]
      exact List.mem_cons_self
    | succ i =>
      rw [List.getElem?_cons_succ] at hv
      have q := ih (fun v hv => h v (List.mem_cons_of_mem _ hv)) (k + 1) i v hv
      rw [show k + (i + 1) = k + 1 + i by omega]
      exact List.mem_cons_of_mem _ q
theorem lg_sl_len {vs : List Value} (h : ∀ v ∈ vs, ¬ v.category = 2) : (lg_sl vs).length = vs.length := by
  induction vs with
  | nil => rfl
  | cons w vs ih =>
    unfold lg_sl at ih ⊢
    rw [List.flatMap_cons, if_neg (h w List.mem_cons_self), List.length_append, ih (fun v hv => h v (List.mem_cons_of_mem _ hv))]
    simp only [List.length_cons, List.length_nil]
    omega
theorem ent_Lr {ad adK : Nat → Nat} {b0 nL : Nat} {as : List AV} (hn : as.length ≤ nL) (h2 : ∀ x ∈ as, ¬ x.1 = 2) : LrM ad adK b0 ((lg_sl (as.map (cnV ad adK b0)) ++ List.replicate (nL - (lg_sl (as.map (cnV ad adK b0))).length) Slot.unset).toArray) nL (entM nL as) := by
  have hc : ∀ v ∈ as.map (cnV ad adK b0), ¬ v.category = 2 := by
    intro v hv
    obtain ⟨x, hx, rfl⟩ := List.mem_map.mp hv
    rw [cn_cat]
    unfold catM
    rw [if_neg (h2 x hx)]
    decide
  have hl := lg_sl_len hc
  rw [List.length_map] at hl
  have he := lv_entry (as.map (cnV ad adK b0)) (n := nL) (by omega)
  obtain ⟨g1, g2, g3⟩ := he
  refine ⟨ent_len hn, g1, g2, fun i x hx h9 => ?_⟩
  unfold entM at hx
  rcases Nat.lt_or_ge i as.length with q | q
  · rw [List.getElem?_append_left q] at hx
    have := lv_args_mem hc 0 i (cnV ad adK b0 x) (by rw [List.getElem?_map, hx]; rfl)
    rw [Nat.zero_add] at this
    exact g3 _ this
  · rw [List.getElem?_append_right q] at hx
    have := (List.mem_replicate.mp (List.mem_of_getElem? hx)).2
    rw [this] at h9
    exact absurd rfl h9
/-- what a run of the small machine says of the machine -/
def SndW (f : Nat) : Prop := ∀ (d m pc : Nat) (L st : List AV) (σ : Mem) (n : Nat) (r : Option AV) (σ' : Mem) (n' : Nat), runM S0 M0 f d m pc L st σ n = some (r, σ', n') → okC m n L st σ →
  ∀ {p : Program} {l : Launch} {e : Env} {R : Room} {s : State} {mid : MethodId} {args : Array Value} {below : List Frame} {meth : Method} {c : Code} {H : Heap} {locs : List Loc} {Q : State → Prop} {D : va_G} {C5 : Nat → ClassId} {ad adK adV : Nat → Nat} {b0 : Nat} {A : Nat → Prop} {xs : Int → Int} {ls : Array Slot} (n0 : Nat),
    CxM p R s mid args meth c D C5 adK adV b0 A d m xs → n0 ≤ n → n' - n0 ≤ R.cells → ssM n' - ssM n0 ≤ R.slots → (∀ j, σ (-2) j = xs j) → va_P D cl13 (wsM ad C5 n σ) H → va_D A (wsM ad C5 n σ) → va_S A s.heap H locs → LrM ad adK b0 ls (mlF m) L →
    (∀ (op nx a b : Nat) (v : Int) (ts : List (Int × Nat)) (pc : Nat) (ls : Array Slot) (H : Heap) (locs : List Loc) (ad' : Nat → Nat), okI m pc (op, nx, a, b, v, ts) = true → retM op r.toList = some r → (∀ k, k < n → ad' k = ad k) → va_P D cl13 (wsM ad' C5 n' σ') H → va_D A (wsM ad' C5 n' σ') → va_S A s.heap H locs → W p l e R s mid args below meth c H locs (n' - n0) (ssM n' - ssM n0) Q (F0 mid pc ls (r.toList.map (cnV ad' adK b0)))) →
    W p l e R s mid args below meth c H locs (n - n0) (ssM n - ssM n0) Q (F0 mid pc ls (st.map (cnV ad adK b0)))
theorem pw_le : ∀ m, m < 179 → ((pwF m).2.2.2.2 = 2 → (myF m).name = "<init>") := fun m hm h => (pn_ok m hm h).2.1
theorem snd_Met {f : Nat} (hW : SndW f) {d y : Nat} {as : List AV} {σ : Mem} {n : Nat} {r : Option AV} {σ' : Mem} {n' : Nat} (hy : y < 179) (hrun : runM S0 M0 f d y 0 (entM (mlF y) as) [] σ n = some (r, σ', n')) (hM : okM n σ) (ha : ∀ x ∈ as, okV n x) (h2 : ∀ x ∈ as, ¬ x.1 = 2) (hlen : as.length ≤ mlF y) (l : Launch) (D : va_G) (C5 : Nat → ClassId) (ad adK adV : Nat → Nat) (b0 sz : Nat) :
    Met l (myF y) (wsY y) (rmD d (n' - n) (ssM n' - ssM n)) (PcM D C5 ad adK adV b0 σ n sz as) (QcM D C5 ad adK b0 σ n sz r σ' n') (n' - n) (ssM n' - ssM n) (va_A (wsM ad C5 n σ) sz) := by
  obtain ⟨y1, y2, y3, y4, y5, y6⟩ := pi_ok y hy
  refine Met.ofW (cc := mcF y) (maxL := mlF y) (ret := mrF y) y5 rfl ?_
  intro p e s m args below meth c s₁ B hml hv
  obtain ⟨rfl, hsz, hP, hD0, hE, hStr⟩ := hv
  subst hsz
  have hown : s.vm.findClass (ownF (moF y)) = some m.cls := by rw [← y2]; exact findClass_of_methodNamed B.named
  have hts := atoms_spec (ws := wsY y) B.pre
  have hlocks := B.notSynchronized
  have hD := hD0.self (sz := s.heap.size)
  have hx := B.exec
  have hb := B.bytes
  have hr := B.returns
  rw [lg_entry_eq]
  have hX : CxM p (headSpec (wsY y) (rmD d (n' - n) (ssM n' - ssM n))).room s m (as.map (cnV ad adK b0)).toArray meth c D C5 adK adV b0 (va_A (wsM ad C5 n σ) s.heap.size) d y (fun j => σ (-2) j) := by
    refine ⟨hx, hb, hml, hown, fun w hw => hts w (List.mem_cons_of_mem _ hw), hE, hStr, fun q h => Or.inr h, fun q => ?_, Nat.le_refl _, Nat.le_refl _, fun q => absurd q (by omega)⟩
    rw [(name_of_methodNamed B.named B.method).1]
    exact pw_le y hy q
  refine W.cs (cells' := n - n) (slots' := ssM n - ssM n) (by omega) (by omega) ?_
  refine hW d y 0 _ [] σ n r σ' n' hrun (ent_ok hM ha h2 _) n hX (Nat.le_refl _) (Nat.le_refl _) (Nat.le_refl _) (fun _ => rfl) hP hD va_S.rf (ent_Lr hlen h2) ?_
  intro op nx a b v ts pc ls H locs ad' hI hret had p1 p2 p3
  have hq : ∀ t : State, t.heap = H → ∀ o, o = Outcome.returned (r.map (cnV ad' adK b0)) → QcM D C5 ad adK b0 σ n s.heap.size r σ' n' (as.map (cnV ad adK b0)).toArray s o t := by
    intro t ht o ho
    exact ⟨⟨ad', had, ho, by rw [ht]; exact p1, p2⟩, p3.F ht⟩
  unfold retM at hret
  split at hret
  · split at hret
    · rename_i hs
      cases r with
      | some x => cases hs
      | none =>
        simp only [okI, Bool.and_eq_true, decide_eq_true_eq] at hI
        exact W.vret hx hb (by rw [hr]; exact hI.2) (fun t ht _ => hq t ht _ rfl) p3.2.2 (isI_d hI.1)
    · cases hret
  · split at hret
    · rename_i x hs
      cases hret
      simp only [okI, Bool.and_eq_true, decide_eq_true_eq] at hI
      exact W.iret (v := Int32.ofInt x) hx hb (by rw [hr]; exact hI.2) (fun t ht _ => hq t ht _ rfl) p3.2.2 (isI_d hI.1)
    · cases hret
  · split at hret
    · rename_i x hs
      split at hret
      · rename_i h01
        cases hret
        simp only [okI, Bool.and_eq_true, decide_eq_true_eq] at hI
        exact W.zret (v := Int32.ofInt x) (ty := .boolean) hx hb (by rw [hr]; exact hI.2) (by rcases h01 with rfl | rfl <;> rfl) (fun t ht _ => hq t ht _ rfl) p3.2.2 (isI_d hI.1)
      · cases hret
    · cases hret
  · split at hret
    · rename_i x hs
      cases hret
      simp only [okI, Bool.and_eq_true, decide_eq_true_eq] at hI
      exact W.lret (v := Int64.ofInt x) hx hb (by rw [hr]; exact hI.2) (fun t ht _ => hq t ht _ rfl) p3.2.2 (isI_d hI.1)
    · cases hret
  · split at hret
    · rename_i t x hs
      split at hret
      · rename_i h10
        cases hret
        simp only [okI, Bool.and_eq_true] at hI
        have hrt : ∃ rt, mrF y = some rt ∧ ((∃ n, rt = .object n) ∨ ∃ t, rt = .array t) := by
          have q := hI.2
          split at q
          · rename_i z hz; exact ⟨_, hz, Or.inl ⟨_, rfl⟩⟩
          · rename_i z hz; exact ⟨_, hz, Or.inr ⟨_, rfl⟩⟩
          · cases q
        obtain ⟨rt, e1, e2⟩ := hrt
        have hv : cnV ad' adK b0 (t, x) = .null ∨ ∃ a, cnV ad' adK b0 (t, x) = .ref a := by
          rcases h10 with q | q
          · rw [cn_q q]
            exact va_rf_or _
          · rw [q]
            exact Or.inr ⟨_, rfl⟩
        exact W.aret hx hb (by rw [hr]; exact e1) e2 hv (fun t ht _ => hq t ht _ rfl) p3.2.2 (isI_d hI.1)
      · cases hret
    · cases hret
  · cases hret
section CLW
variable {p : Program} {l : Launch} {e : Env} {R : Room} {s : State} {mid : MethodId} {args : Array Value} {below : List Frame} {meth : Method} {c : Code} {H : Heap} {locs : List Loc} {cells slots : Nat} {Q : State → Prop}
variable {D : va_G} {C5 : Nat → ClassId} {ad adK adV : Nat → Nat} {b0 : Nat} {A : Nat → Prop}
theorem call_W {pc mc ms n n1 : Nat} {ls : Array Slot} {st0 rest : List Value} {σ σ1 : Mem} {r : Option AV} {av : Array Value} (hr : va_Run p l e R s mid args below meth c H locs cells slots mc ms (F0 mid pc ls st0) rest (QcM D C5 ad adK b0 σ n H.size r σ1 n1 av) (va_A (wsM ad C5 n σ) H.size)) (hS : va_S A s.heap H locs) (hF : ∀ q, va_A (wsM ad C5 n σ) H.size q → A q)
    (kk : ∀ (ad' : Nat → Nat) (H1 : Heap) (locs1 : List Loc), (∀ k, k < n → ad' k = ad k) → va_P D cl13 (wsM ad' C5 n1 σ1) H1 → va_D A (wsM ad' C5 n1 σ1) → va_S A s.heap H1 locs1 → W p l e R s mid args below meth c H1 locs1 (cells + mc) (slots + ms) Q (F0 mid (pc + 3) ls ((r.map (cnV ad' adK b0)).toList ++ rest))) : W p l e R s mid args below meth c H locs cells slots Q (F0 mid pc ls st0) := by
  intro T hT X
  obtain ⟨v, st₀, t, T', L, h0, X', hL, e1, e2, ⟨⟨ad', had, hv, hP1, hD1⟩, hz, hk⟩, st⟩ := hr T hT X
  cases hv
  rw [h0] at hz hk
  obtain ⟨t2, a1, b1⟩ := kk ad' T'.heap (locs ++ L) had (by rw [e1]; exact hP1) (hD1.weaken (fun _ _ _ h => hF _ h))
    ⟨Nat.le_trans hS.1 (by rw [e1]; exact hz), fun q h1 h2 => by rw [e1, hk q (Nat.lt_of_lt_of_le h1 hS.1) (fun z => h2 (hF q z))]; exact hS.2.1 q h1 h2, fun q hq => by
      rcases List.mem_append.mp hq with h | h
      · exact hS.2.2 q h
      · exact hF _ (hL q h)⟩ T' rfl X'
  exact ⟨t2, st t2 a1, b1⟩
theorem pre_W {n : Nat} {σ : Mem} {as : List AV} (hE : EnvU D C5 adK s) (hStr : StrU adK adV A s s.heap) (hA : ∀ q, s.heap.size ≤ q → A q) (hP : va_P D cl13 (wsM ad C5 n σ) H) (hD : va_D A (wsM ad C5 n σ)) (hS : va_S A s.heap H locs) : PreS s H (PcM D C5 ad adK adV b0 σ n H.size as) (as.map (cnV ad adK b0)) ∧ ∀ q, va_A (wsM ad C5 n σ) H.size q → A q := by
  have hF : ∀ q, va_A (wsM ad C5 n σ) H.size q → A q := by
    intro q h
    rcases h with ⟨k, e, h⟩ | h
    · exact hD.2 k (q, e) h
    · exact hA q (Nat.le_trans hS.1 h)
  refine ⟨⟨fun a U g mk q => ?_, fun U hU hW => ⟨rfl, by rw [hU], by rw [hU]; exact hP, hD.weaken (fun _ _ _ _ => trivial), hE.warm hW, ?_⟩⟩, hF⟩
  · obtain ⟨q0, q1, q2, q3, q4, q5⟩ := q
    exact ⟨q0, q1, q2, q3, EnvU.same (u := U) (U := U.calling g mk a) rfl q4, StrU.to (u := U) (U := U.calling g mk a) q5 (Vm.Alike.refl U.vm) (fun _ _ _ => rfl) (fun _ h => h)⟩
  · rw [hU]
    exact hStr.to hW.alike (fun a h1 h2 => hS.2.1 a h1 h2) hF
end CLW
