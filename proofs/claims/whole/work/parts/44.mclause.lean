/-! fees: the reference -/
set_option maxHeartbeats 2000000 in
theorem kd_of {u : Int → Int} {s e : Int} {i : Nat} (h0 : 1 ≤ i) (hi : i < 7) (h : wB i u s e = true) : kd u s e = (i : Int) - 1 := by
  have no : ∀ j : Nat, j < 7 → ¬ j = i → ¬ wB j u s e = true := fun j hj hne z => hne (wB_u hj hi z h)
  unfold kd
  rcases (by omega : i = 1 ∨ i = 2 ∨ i = 3 ∨ i = 4 ∨ i = 5 ∨ i = 6) with rfl | rfl | rfl | rfl | rfl | rfl
  · have h : wB 1 u s e = true := h; rw [if_pos h]; rfl
  · have h : wB 2 u s e = true := h; have n1 : ¬ wB 1 u s e = true := no 1 (by omega) (by omega); rw [if_neg n1, if_pos h]; rfl
  · have h : wB 3 u s e = true := h; have n1 : ¬ wB 1 u s e = true := no 1 (by omega) (by omega); have n2 : ¬ wB 2 u s e = true := no 2 (by omega) (by omega); rw [if_neg n1, if_neg n2, if_pos h]; rfl
  · have h : wB 4 u s e = true := h; have n1 : ¬ wB 1 u s e = true := no 1 (by omega) (by omega); have n2 : ¬ wB 2 u s e = true := no 2 (by omega) (by omega); have n3 : ¬ wB 3 u s e = true := no 3 (by omega) (by omega); rw [if_neg n1, if_neg n2, if_neg n3, if_pos h]; rfl
  · have h : wB 5 u s e = true := h; have n1 : ¬ wB 1 u s e = true := no 1 (by omega) (by omega); have n2 : ¬ wB 2 u s e = true := no 2 (by omega) (by omega); have n3 : ¬ wB 3 u s e = true := no 3 (by omega) (by omega); have n4 : ¬ wB 4 u s e = true := no 4 (by omega) (by omega); rw [if_neg n1, if_neg n2, if_neg n3, if_neg n4, if_pos h]; rfl
  · have h : wB 6 u s e = true := h; have n1 : ¬ wB 1 u s e = true := no 1 (by omega) (by omega); have n2 : ¬ wB 2 u s e = true := no 2 (by omega) (by omega); have n3 : ¬ wB 3 u s e = true := no 3 (by omega) (by omega); have n4 : ¬ wB 4 u s e = true := no 4 (by omega) (by omega); have n5 : ¬ wB 5 u s e = true := no 5 (by omega) (by omega); rw [if_neg n1, if_neg n2, if_neg n3, if_neg n4, if_neg n5, if_pos h]; rfl
theorem kd_no {u : Int → Int} {s e : Int} (h : ∀ j : Nat, 1 ≤ j → j < 7 → ¬ wB j u s e = true) : kd u s e = -1 := by
  have n1 : ¬ wB 1 u s e = true := h 1 (by omega) (by omega)
  have n2 : ¬ wB 2 u s e = true := h 2 (by omega) (by omega)
  have n3 : ¬ wB 3 u s e = true := h 3 (by omega) (by omega)
  have n4 : ¬ wB 4 u s e = true := h 4 (by omega) (by omega)
  have n5 : ¬ wB 5 u s e = true := h 5 (by omega) (by omega)
  have n6 : ¬ wB 6 u s e = true := h 6 (by omega) (by omega)
  unfold kd
  rw [if_neg n1, if_neg n2, if_neg n3, if_neg n4, if_neg n5, if_neg n6]
theorem o0_n {a b : Int} (h : ¬ a = 0) : o0 a b = a := if_neg h
def CLM (σ : Mem) (l : List Cl) : Prop := σ 69 48 = (l.length : Int) ∧ ∀ (i : Nat) (e : Cl), l[i]? = some e → σ 103 (i : Int) = e.2.1 ∧ σ 104 (i : Int) = e.1 ∧ σ 105 (i : Int) = (if e.2.1 = 4 then e.2.2.2 else e.2.2.1) ∧ σ 106 (i : Int) = (if e.2.1 = 4 then e.2.2.1 else 0)
set_option maxHeartbeats 4000000 in
theorem m_clause {d : Nat} {n : Nat} {Q : Pst} {σ : Mem} {l : List Cl} {a : Int} (hG : GR σ) (hB : BM σ) (ha1 : σ 69 41 = a) (ha : 0 ≤ a ∧ a ≤ σ 69 40) (hf0 : σ 69 42 = 0) (hC : CLM σ l) (hl : cf (uM σ) a = 0 → l.length < 60) (ht : cf (uM σ) a = 0 → ∀ τ, (∀ c j, ¬ (c = 69 ∧ (j = 41 ∨ j = 42 ∨ j = 54 ∨ j = 48)) → ¬ (103 ≤ c ∧ c ≤ 106) → τ c j = σ c j) → τ 69 41 = ca4 (uM σ) a → τ 69 42 = 0 → CLM τ (l ++ [ccl (uM σ) a]) → Q (some (0, 1)) τ n) (hf : ¬ cf (uM σ) a = 0 → ∀ τ, (∀ c j, ¬ (c = 69 ∧ (j = 41 ∨ j = 42 ∨ j = 54)) → τ c j = σ c j) → τ 69 42 = cf (uM σ) a → Q (some (0, 0)) τ n) : EVM (d + 2) 167 [(22, 69)] σ n Q := by
  show EV (d + 2) 167 0 [(22, 69), (9, 0), (9, 0), (9, 0), (9, 0), (9, 0), (9, 0), (9, 0)] [] σ n Q
  have hB1 := hB.1
  have b := cl_b hB.uv ha.1 ha.2
  have S0 : RS σ σ a 0 (σ 69 54) := ⟨fun _ _ _ => rfl, ha1, hf0, rfl⟩
  have bad : ∀ τ a2 s2, ¬ cf (uM σ) a = 0 → RS σ τ a2 (cf (uM σ) a) s2 → Q (some (0, 0)) τ n := fun τ a2 s2 hne S => hf hne τ S.1 S.2.2.1
  -- a good clause is written
  have fin : ∀ (τ : Mem) (x1 x2 x4 x7 : Int) {x5 x6 sd : Int}, cf (uM σ) a = 0 → RS σ τ (ca4 (uM σ) a) 0 sd → x5 = (if ck (uM σ) a = 5 then 10 + cg (uM σ) a else ck (uM σ) a) → ((¬ ck (uM σ) a = 4 ∧ ¬ x5 = 4 ∧ x6 = 0 ∧ sd = cn (uM σ) a) ∨ (ck (uM σ) a = 4 ∧ x6 = cn (uM σ) a ∧ sd = csh (uM σ) a)) → EV (d + 2) 167 270 [(22, 69), (0, x1), (0, x2), (0, dgV (uM σ) (ce (uM σ) a)), (0, x4), (0, x5), (0, x6), (0, x7)] [] τ n Q := fun τ x1 x2 x4 x7 {x5 x6 sd} cz S e5 e6 => by
    have e48 : τ 69 48 = (l.length : Int) := by rw [S.1 69 48 (by decide)]; exact hC.1
    have hl2 := hl cz
    refine r_167_270 (hG := S.GR hG) (h0 := by omega) (k := ?_)
    rw [e48, S.2.2.2, Zadd_eq (by omega) (by omega)]
    refine ht cz _ (fun c j q1 q2 => ?_) ?_ ?_ ⟨?_, fun i x hx => ?_⟩
    · rw [wr_j (by omega), wr_ne (by omega), wr_ne (by omega), wr_ne (by omega), wr_ne (by omega)]
      exact S.1 c j (by omega)
    · rw [wr_nej (by decide), wr_ne (by decide), wr_ne (by decide), wr_ne (by decide), wr_ne (by decide)]; exact S.2.1
    · rw [wr_nej (by decide), wr_ne (by decide), wr_ne (by decide), wr_ne (by decide), wr_ne (by decide)]; exact S.2.2.1
    · rw [wr_same, List.length_append]; simp
    · by_cases q : i < l.length
      · rw [List.getElem?_append_left q] at hx
        obtain ⟨p1, p2, p3, p4⟩ := hC.2 i x hx
        refine ⟨?_, ?_, ?_, ?_⟩
        · rw [wr_ne (by decide), wr_ne (by decide), wr_ne (by decide), wr_ne (by decide), wr_j (by omega), S.1 103 _ (by omega)]; exact p1
        · rw [wr_ne (by decide), wr_ne (by decide), wr_ne (by decide), wr_j (by omega), wr_ne (by decide), S.1 104 _ (by omega)]; exact p2
        · rw [wr_ne (by decide), wr_j (by omega), wr_ne (by decide), wr_ne (by decide), wr_ne (by decide), S.1 105 _ (by omega)]; exact p3
        · rw [wr_ne (by decide), wr_ne (by decide), wr_j (by omega), wr_ne (by decide), wr_ne (by decide), S.1 106 _ (by omega)]; exact p4
      · rw [List.getElem?_append_right (by omega)] at hx
        have q2 : i - l.length = 0 := by
          cases hq : i - l.length with
          | zero => rfl
          | succ m => rw [hq] at hx; simp at hx
        rw [q2] at hx
        have ex : x = ccl (uM σ) a := by simpa using hx.symm
        have q3 : i = l.length := by omega
        subst ex
        rw [q3]
        have ck5 : (ccl (uM σ) a).2.1 = x5 := e5.symm
        refine ⟨?_, ?_, ?_, ?_⟩
        · rw [wr_ne (by decide), wr_ne (by decide), wr_ne (by decide), wr_ne (by decide), ck5]; exact wr_same
        · rw [wr_ne (by decide), wr_ne (by decide), wr_ne (by decide)]; exact wr_same
        · rw [ck5, wr_ne (by decide)]
          refine wr_same.trans ?_
          rcases e6 with ⟨h4, h5, h6, h7⟩ | ⟨h4, h6, h7⟩
          · rw [if_neg h5]; exact h7
          · rw [if_pos (by rw [e5, h4]; exact if_neg (by decide))]; exact h7
        · rw [ck5, wr_ne (by decide), wr_ne (by decide)]
          refine wr_same.trans ?_
          rcases e6 with ⟨h4, h5, h6, h7⟩ | ⟨h4, h6, h7⟩
          · rw [if_neg h5]; exact h6
          · rw [if_pos (by rw [e5, h4]; exact if_neg (by decide))]; exact h6
  refine r_167_0 (k := ?_)
  refine m_see hG hB S0 ha (fun τ1 S1 => ?_)
  dsimp only [Option.toList_some, List.cons_append, List.nil_append]
  refine r_167_4 (k := ?_)
  have i1 := sk_i hB.uv ha.1 ha.2
  rw [S1.2.1]
  -- the rest, behind 'from'
  have rest : wB 0 (uM σ) (sk (uM σ) a) (ce (uM σ) a) = true → ∀ τ2 x1 x2, RS σ τ2 (ce (uM σ) a) 0 (σ 69 54) → EV (d + 2) 167 25 [(22, 69), (0, x1), (0, x2), (9, 0), (9, 0), (9, 0), (9, 0), (9, 0)] [] τ2 n Q := fun z τ2 x1 x2 S2 => by
    have z0 : f0 (uM σ) a = 0 := if_pos z
    refine r_167_25 (k := ?_)
    refine m_number hG hB S2 (by omega) (fun z1 τ3 S3 => ?_) (fun z1 τ3 a3 s3 S3 => ?_)
    · dsimp only [Option.toList_some, List.cons_append, List.nil_append]
      have z1 : f1 (uM σ) a = 0 := z1
      have S3 : RS σ τ3 (ca1 (uM σ) a) 0 (dgV (uM σ) (ce (uM σ) a)) := S3
      refine r_167_33 (ht := fun _ => ?_) (hf := fun c => absurd c (by decide))
      refine r_167_38 (k := ?_)
      rw [S3.2.2.2]
      refine m_see hG hB S3 (by omega) (fun τ4 S4 => ?_)
      dsimp only [Option.toList_some, List.cons_append, List.nil_append]
      have S4 : RS σ τ4 (cs2 (uM σ) a) 0 (dgV (uM σ) (ce (uM σ) a)) := S4
      refine r_167_47 (k := ?_)
      rw [S4.2.1]
      have i2 : sk (uM σ) (cs2 (uM σ) a) = cs2 (uM σ) a := sk_i hB.uv (a := ca1 (uM σ) a) (by omega) (by omega)
      refine m_word hG hB S4 (by omega) (fun i hi z2 τ5 S5 => ?_) (fun z2 τ5 S5 => ?_)
      · rw [i2] at z2 S5
        dsimp only [Option.toList_some, List.cons_append, List.nil_append]
        have z2 : wB i (uM σ) (cs2 (uM σ) a) (ce2 (uM σ) a) = true := z2
        have S5 : RS σ τ5 (ce2 (uM σ) a) 0 (dgV (uM σ) (ce (uM σ) a)) := S5
        rcases (by omega : i = 0 ∨ i = 1 ∨ i = 2 ∨ i = 3 ∨ i = 4 ∨ i = 5 ∨ i = 6) with rfl | rfl | rfl | rfl | rfl | rfl | rfl
        · have ek : ck (uM σ) a = -1 := kd_no (fun j h1 h7 zj => by have := wB_u h7 hi zj z2; omega)
          have e2 : f2 (uM σ) a = 1 + 4 * cs2 (uM σ) a := if_pos ek
          refine r_167_57 (k := ?_)
          refine r_167_256 (k := ?_)
          refine m_fails S5 (by omega) (by omega) (fun τ6 S6 => ?_)
          dsimp only [Option.toList_some, List.cons_append, List.nil_append]
          rw [o0_z] at S6
          have cz : cf (uM σ) a = 1 + 4 * cs2 (uM σ) a := by have hne : ¬ 1 + 4 * cs2 (uM σ) a = 0 := (by omega); unfold cf; rw [z0, z1, e2, o0_z, o0_z, o0_n hne, o0_n hne, o0_n hne]
          exact r_167_262 (h0 := Or.inl rfl) (k := bad τ6 _ _ (by omega) (by rw [cz]; exact S6))
        · have ek : ck (uM σ) a = 0 := kd_of (i := 1) (by omega) (by omega) z2
          have ea2 : ca2 (uM σ) a = ce2 (uM σ) a := if_neg (by rw [ek]; decide)
          have e2 : f2 (uM σ) a = 0 := if_neg (by rw [ek]; decide)
          have e3 : f3 (uM σ) a = 0 := if_neg (by rw [ek]; decide)
          have e4 : f4 (uM σ) a = nmF (uM σ) (ce2 (uM σ) a) 0 480 := by unfold f4; rw [ea2, ek]; rfl
          have e5 : f5 (uM σ) a = 0 := if_neg (by rw [ek]; decide)
          refine r_167_57 (k := ?_)
          refine r_167_157 (k := ?_)
          refine m_number hG hB S5 (by omega) (fun nz τ6 S6 => ?_) (fun nz τ6 a6 s6 S6 => ?_)
          · dsimp only [Option.toList_some, List.cons_append, List.nil_append]
            refine r_167_168 (ht := fun _ => ?_) (hf := fun c => absurd c (by decide))
            have cz : cf (uM σ) a = 0 := by unfold cf; rw [z0, z1, e2, e3, e4, nz, e5]; rfl
            have e6 : ca4 (uM σ) a = dgE (uM σ) (ce2 (uM σ) a) := by unfold ca4 ca3; rw [if_neg (by rw [ek]; decide), ea2]
            rw [← e6] at S6
            refine fin τ6 _ _ _ _ cz S6 ?_ ?_
            · rw [ek]; exact (if_neg (by decide)).symm
            · rw [ek]; refine Or.inl ⟨by decide, by decide, rfl, ?_⟩; unfold cn; rw [ea2]
          · dsimp only [Option.toList_some, List.cons_append, List.nil_append]
            refine r_167_168 (ht := fun c => absurd rfl c) (hf := fun _ => ?_)
            have cz : cf (uM σ) a = nmF (uM σ) (ce2 (uM σ) a) 0 480 := by unfold cf; rw [z0, z1, e2, e3, e4, e5, o0_00]; rfl
            rw [o0_z] at S6
            exact r_167_268 (k := bad τ6 a6 s6 (by rw [cz]; exact nz) (by rw [cz]; exact S6))
        · have ek : ck (uM σ) a = 1 := kd_of (i := 2) (by omega) (by omega) z2
          have ea2 : ca2 (uM σ) a = ce2 (uM σ) a := if_neg (by rw [ek]; decide)
          have e2 : f2 (uM σ) a = 0 := if_neg (by rw [ek]; decide)
          have e3 : f3 (uM σ) a = 0 := if_neg (by rw [ek]; decide)
          have e4 : f4 (uM σ) a = nmF (uM σ) (ce2 (uM σ) a) 0 100 := by unfold f4; rw [ea2, ek]; rfl
          have e5 : f5 (uM σ) a = 0 := if_neg (by rw [ek]; decide)
          refine r_167_57 (k := ?_)
          refine r_167_173 (k := ?_)
          refine m_number hG hB S5 (by omega) (fun nz τ6 S6 => ?_) (fun nz τ6 a6 s6 S6 => ?_)
          · dsimp only [Option.toList_some, List.cons_append, List.nil_append]
            refine r_167_183 (ht := fun _ => ?_) (hf := fun c => absurd c (by decide))
            have cz : cf (uM σ) a = 0 := by unfold cf; rw [z0, z1, e2, e3, e4, nz, e5]; rfl
            have e6 : ca4 (uM σ) a = dgE (uM σ) (ce2 (uM σ) a) := by unfold ca4 ca3; rw [if_neg (by rw [ek]; decide), ea2]
            rw [← e6] at S6
            refine fin τ6 _ _ _ _ cz S6 ?_ ?_
            · rw [ek]; exact (if_neg (by decide)).symm
            · rw [ek]; refine Or.inl ⟨by decide, by decide, rfl, ?_⟩; unfold cn; rw [ea2]
          · dsimp only [Option.toList_some, List.cons_append, List.nil_append]
            refine r_167_183 (ht := fun c => absurd rfl c) (hf := fun _ => ?_)
            have cz : cf (uM σ) a = nmF (uM σ) (ce2 (uM σ) a) 0 100 := by unfold cf; rw [z0, z1, e2, e3, e4, e5, o0_00]; rfl
            rw [o0_z] at S6
            exact r_167_268 (k := bad τ6 a6 s6 (by rw [cz]; exact nz) (by rw [cz]; exact S6))
        · have ek : ck (uM σ) a = 2 := kd_of (i := 3) (by omega) (by omega) z2
          have ea2 : ca2 (uM σ) a = ce2 (uM σ) a := if_neg (by rw [ek]; decide)
          have e2 : f2 (uM σ) a = 0 := if_neg (by rw [ek]; decide)
          have e3 : f3 (uM σ) a = 0 := if_neg (by rw [ek]; decide)
          have e4 : f4 (uM σ) a = nmF (uM σ) (ce2 (uM σ) a) 50 300 := by unfold f4; rw [ea2, ek]; rfl
          have e5 : f5 (uM σ) a = 0 := if_neg (by rw [ek]; decide)
          refine r_167_57 (k := ?_)
          refine r_167_188 (k := ?_)
          refine m_number hG hB S5 (by omega) (fun nz τ6 S6 => ?_) (fun nz τ6 a6 s6 S6 => ?_)
          · dsimp only [Option.toList_some, List.cons_append, List.nil_append]
            refine r_167_200 (ht := fun _ => ?_) (hf := fun c => absurd c (by decide))
            have cz : cf (uM σ) a = 0 := by unfold cf; rw [z0, z1, e2, e3, e4, nz, e5]; rfl
            have e6 : ca4 (uM σ) a = dgE (uM σ) (ce2 (uM σ) a) := by unfold ca4 ca3; rw [if_neg (by rw [ek]; decide), ea2]
            rw [← e6] at S6
            refine fin τ6 _ _ _ _ cz S6 ?_ ?_
            · rw [ek]; exact (if_neg (by decide)).symm
            · rw [ek]; refine Or.inl ⟨by decide, by decide, rfl, ?_⟩; unfold cn; rw [ea2]
          · dsimp only [Option.toList_some, List.cons_append, List.nil_append]
            refine r_167_200 (ht := fun c => absurd rfl c) (hf := fun _ => ?_)
            have cz : cf (uM σ) a = nmF (uM σ) (ce2 (uM σ) a) 50 300 := by unfold cf; rw [z0, z1, e2, e3, e4, e5, o0_00]; rfl
            rw [o0_z] at S6
            exact r_167_268 (k := bad τ6 a6 s6 (by rw [cz]; exact nz) (by rw [cz]; exact S6))
        · have ek : ck (uM σ) a = 3 := kd_of (i := 4) (by omega) (by omega) z2
          have ea2 : ca2 (uM σ) a = ce2 (uM σ) a := if_neg (by rw [ek]; decide)
          have e2 : f2 (uM σ) a = 0 := if_neg (by rw [ek]; decide)
          have e3 : f3 (uM σ) a = 0 := if_neg (by rw [ek]; decide)
          have e4 : f4 (uM σ) a = nmF (uM σ) (ce2 (uM σ) a) 50 300 := by unfold f4; rw [ea2, ek]; rfl
          have e5 : f5 (uM σ) a = 0 := if_neg (by rw [ek]; decide)
          refine r_167_57 (k := ?_)
          refine r_167_205 (k := ?_)
          refine m_number hG hB S5 (by omega) (fun nz τ6 S6 => ?_) (fun nz τ6 a6 s6 S6 => ?_)
          · dsimp only [Option.toList_some, List.cons_append, List.nil_append]
            refine r_167_217 (ht := fun _ => ?_) (hf := fun c => absurd c (by decide))
            have cz : cf (uM σ) a = 0 := by unfold cf; rw [z0, z1, e2, e3, e4, nz, e5]; rfl
            have e6 : ca4 (uM σ) a = dgE (uM σ) (ce2 (uM σ) a) := by unfold ca4 ca3; rw [if_neg (by rw [ek]; decide), ea2]
            rw [← e6] at S6
            refine fin τ6 _ _ _ _ cz S6 ?_ ?_
            · rw [ek]; exact (if_neg (by decide)).symm
            · rw [ek]; refine Or.inl ⟨by decide, by decide, rfl, ?_⟩; unfold cn; rw [ea2]
          · dsimp only [Option.toList_some, List.cons_append, List.nil_append]
            refine r_167_217 (ht := fun c => absurd rfl c) (hf := fun _ => ?_)
            have cz : cf (uM σ) a = nmF (uM σ) (ce2 (uM σ) a) 50 300 := by unfold cf; rw [z0, z1, e2, e3, e4, e5, o0_00]; rfl
            rw [o0_z] at S6
            exact r_167_268 (k := bad τ6 a6 s6 (by rw [cz]; exact nz) (by rw [cz]; exact S6))
        · have ek : ck (uM σ) a = 4 := kd_of (i := 5) (by omega) (by omega) z2
          have ea2 : ca2 (uM σ) a = ce2 (uM σ) a := if_neg (by rw [ek]; decide)
          have e2 : f2 (uM σ) a = 0 := if_neg (by rw [ek]; decide)
          have e3 : f3 (uM σ) a = 0 := if_neg (by rw [ek]; decide)
          have e4 : f4 (uM σ) a = nmF (uM σ) (ce2 (uM σ) a) 0 5000 := by unfold f4; rw [ea2, ek]; rfl
          have e5 : f5 (uM σ) a = nmF (uM σ) (ca3 (uM σ) a) 0 100 := if_pos ek
          have ea3 : ca3 (uM σ) a = dgE (uM σ) (ce2 (uM σ) a) := by unfold ca3; rw [ea2]
          refine r_167_57 (k := ?_)
          refine r_167_222 (k := ?_)
          refine m_number hG hB S5 (by omega) (fun nz τ6 S6 => ?_) (fun nz τ6 a6 s6 S6 => ?_)
          · dsimp only [Option.toList_some, List.cons_append, List.nil_append]
            rw [← ea3] at S6
            refine r_167_233 (ht := fun _ => ?_) (hf := fun c => absurd c (by decide))
            refine r_167_238 (k := ?_)
            have s6 := S6.2.2.2
            refine m_number hG hB S6 (by omega) (fun nz2 τ7 S7 => ?_) (fun nz2 τ7 a7 s7 S7 => ?_)
            · dsimp only [Option.toList_some, List.cons_append, List.nil_append]
              refine r_167_251 (ht := fun _ => ?_) (hf := fun c => absurd c (by decide))
              have cz : cf (uM σ) a = 0 := by unfold cf; rw [z0, z1, e2, e3, e4, nz, e5, nz2]; rfl
              have e6 : ca4 (uM σ) a = dgE (uM σ) (ca3 (uM σ) a) := if_pos ek
              rw [← e6] at S7
              refine fin τ7 _ _ _ _ cz S7 ?_ ?_
              · rw [ek]; exact (if_neg (by decide)).symm
              · rw [ek]; refine Or.inr ⟨rfl, ?_, ?_⟩
                · rw [s6]; unfold cn; rw [ea2]
                · unfold csh; rw [if_pos ek]
            · dsimp only [Option.toList_some, List.cons_append, List.nil_append]
              refine r_167_251 (ht := fun c => absurd rfl c) (hf := fun _ => ?_)
              have cz : cf (uM σ) a = nmF (uM σ) (ca3 (uM σ) a) 0 100 := by unfold cf; rw [z0, z1, e2, e3, e4, nz, e5]; rfl
              rw [o0_z] at S7
              exact r_167_268 (k := bad τ7 a7 s7 (by rw [cz]; exact nz2) (by rw [cz]; exact S7))
          · dsimp only [Option.toList_some, List.cons_append, List.nil_append]
            refine r_167_233 (ht := fun c => absurd rfl c) (hf := fun _ => ?_)
            have cz : cf (uM σ) a = nmF (uM σ) (ce2 (uM σ) a) 0 5000 := by unfold cf; rw [z0, z1, e2, e3, e4]; exact o0_n nz
            rw [o0_z] at S6
            exact r_167_236 (k := bad τ6 a6 s6 (by rw [cz]; exact nz) (by rw [cz]; exact S6))
        · have ek : ck (uM σ) a = 5 := kd_of (i := 6) (by omega) (by omega) z2
          have ea2 : ca2 (uM σ) a = dgE (uM σ) (ce2 (uM σ) a) := if_pos ek
          have eg : cg (uM σ) a = dgV (uM σ) (ce2 (uM σ) a) := if_pos ek
          have e2 : f2 (uM σ) a = 0 := if_neg (by rw [ek]; decide)
          have e3 : f3 (uM σ) a = nmF (uM σ) (ce2 (uM σ) a) 1 5 := if_pos ek
          have e4 : f4 (uM σ) a = nmF (uM σ) (ca2 (uM σ) a) 0 1000 := by unfold f4; rw [ek]; rfl
          have e5 : f5 (uM σ) a = 0 := if_neg (by rw [ek]; decide)
          refine r_167_57 (k := ?_)
          refine r_167_124 (k := ?_)
          refine m_number hG hB S5 (by omega) (fun nz τ6 S6 => ?_) (fun nz τ6 a6 s6 S6 => ?_)
          · dsimp only [Option.toList_some, List.cons_append, List.nil_append]
            have gb := nmF_0 hB.uv (a := ce2 (uM σ) a) (by omega) (by omega) nz
            rw [← ea2] at S6
            refine r_167_130 (ht := fun _ => ?_) (hf := fun c => absurd c (by decide))
            refine r_167_135 (k := ?_)
            have s6 := S6.2.2.2
            rw [s6, Zadd_eq (by omega) (by omega)]
            refine m_number hG hB S6 (by omega) (fun nz2 τ7 S7 => ?_) (fun nz2 τ7 a7 s7 S7 => ?_)
            · dsimp only [Option.toList_some, List.cons_append, List.nil_append]
              refine r_167_152 (ht := fun _ => ?_) (hf := fun c => absurd c (by decide))
              have cz : cf (uM σ) a = 0 := by unfold cf; rw [z0, z1, e2, e3, nz, e4, nz2, e5]; rfl
              have e6 : ca4 (uM σ) a = dgE (uM σ) (ca2 (uM σ) a) := by unfold ca4 ca3; rw [if_neg (by rw [ek]; decide)]
              rw [← e6] at S7
              refine fin τ7 _ _ _ _ cz S7 ?_ ?_
              · rw [if_pos ek, eg]
              · rw [ek]; refine Or.inl ⟨by decide, by omega, rfl, ?_⟩; unfold cn; rfl
            · dsimp only [Option.toList_some, List.cons_append, List.nil_append]
              refine r_167_152 (ht := fun c => absurd rfl c) (hf := fun _ => ?_)
              have cz : cf (uM σ) a = nmF (uM σ) (ca2 (uM σ) a) 0 1000 := by unfold cf; rw [z0, z1, e2, e3, nz, e4, e5, o0_00]; rfl
              rw [o0_z] at S7
              exact r_167_268 (k := bad τ7 a7 s7 (by rw [cz]; exact nz2) (by rw [cz]; exact S7))
          · dsimp only [Option.toList_some, List.cons_append, List.nil_append]
            refine r_167_130 (ht := fun c => absurd rfl c) (hf := fun _ => ?_)
            have cz : cf (uM σ) a = nmF (uM σ) (ce2 (uM σ) a) 1 5 := by unfold cf; rw [z0, z1, e2, e3, o0_z, o0_z, o0_z, o0_n nz, o0_n nz]
            rw [o0_z] at S6
            exact r_167_133 (k := bad τ6 a6 s6 (by rw [cz]; exact nz) (by rw [cz]; exact S6))
      · rw [i2] at z2 S5
        dsimp only [Option.toList_some, List.cons_append, List.nil_append]
        have ek : ck (uM σ) a = -1 := kd_no (fun j h1 h7 => z2 j h7)
        have e2 : f2 (uM σ) a = 1 + 4 * cs2 (uM σ) a := if_pos ek
        refine r_167_57 (k := ?_)
        refine r_167_256 (k := ?_)
        refine m_fails S5 (by omega) (by omega) (fun τ6 S6 => ?_)
        dsimp only [Option.toList_some, List.cons_append, List.nil_append]
        rw [o0_z] at S6
        have cz : cf (uM σ) a = 1 + 4 * cs2 (uM σ) a := by have hne : ¬ 1 + 4 * cs2 (uM σ) a = 0 := (by omega); unfold cf; rw [z0, z1, e2, o0_z, o0_z, o0_n hne, o0_n hne, o0_n hne]
        exact r_167_262 (h0 := Or.inl rfl) (k := bad τ6 _ _ (by omega) (by rw [cz]; exact S6))
    · dsimp only [Option.toList_some, List.cons_append, List.nil_append]
      refine r_167_33 (ht := fun c => absurd rfl c) (hf := fun _ => ?_)
      have cz : cf (uM σ) a = nmF (uM σ) (ce (uM σ) a) 0 999 := by unfold cf; rw [z0, o0_z, show f1 (uM σ) a = nmF (uM σ) (ce (uM σ) a) 0 999 from rfl, o0_n z1, o0_n z1, o0_n z1, o0_n z1]
      rw [o0_z] at S3
      exact r_167_36 (k := bad τ3 a3 s3 (by rw [cz]; exact z1) (by rw [cz]; exact S3))
  have nofrom : ¬ wB 0 (uM σ) (sk (uM σ) a) (ce (uM σ) a) = true → ∀ τ2 a2 x1, RS σ τ2 a2 0 (σ 69 54) → EV (d + 2) 167 18 [(22, 69), (0, x1), (0, sk (uM σ) a), (9, 0), (9, 0), (9, 0), (9, 0), (9, 0)] [] τ2 n Q := fun z τ2 a2 x1 S2 => by
    have z0 : f0 (uM σ) a = 1 + 4 * sk (uM σ) a := if_neg z
    refine r_167_18 (k := ?_)
    refine m_fails S2 (by omega) (by omega) (fun τ3 S3 => ?_)
    dsimp only [Option.toList_some, List.cons_append, List.nil_append]
    rw [o0_z] at S3
    have cz : cf (uM σ) a = 1 + 4 * sk (uM σ) a := by have hne : ¬ 1 + 4 * sk (uM σ) a = 0 := (by omega); unfold cf; rw [z0, o0_n hne, o0_n hne, o0_n hne, o0_n hne, o0_n hne]
    exact r_167_24 (h0 := Or.inl rfl) (k := bad τ3 _ _ (by omega) (by rw [cz]; exact S3))
  refine m_word hG hB S1 (by omega) (fun i hi z τ2 S2 => ?_) (fun z τ2 S2 => ?_)
  · rw [i1] at z S2
    dsimp only [Option.toList_some, List.cons_append, List.nil_append]
    have z : wB i (uM σ) (sk (uM σ) a) (ce (uM σ) a) = true := z
    rcases Nat.eq_zero_or_pos i with rfl | hp
    · refine r_167_14 (ht := fun _ => ?_) (hf := fun c => absurd (show wP 0 + 1 = 1 by decide) c)
      exact rest z τ2 _ _ S2
    · have hne : ¬ wP (i : Int) + 1 = 1 := by
        have : ∀ i : Fin 7, 1 ≤ i.val → ¬ wP (i.val : Int) + 1 = 1 := by decide +kernel
        exact this ⟨i, hi⟩ hp
      refine r_167_14 (ht := fun c => absurd c hne) (hf := fun _ => ?_)
      exact nofrom (fun z9 => by have := wB_u (i := 0) (by omega) hi z9 z; omega) τ2 _ _ S2
  · rw [i1] at z S2
    dsimp only [Option.toList_some, List.cons_append, List.nil_append]
    refine r_167_14 (ht := fun c => absurd c (by decide)) (hf := fun _ => ?_)
    exact nofrom (z 0 (by omega)) τ2 _ _ S2
