/-! the reading of a text of fees, purely -/
def uB (B : Int → Int) (N x : Int) : Int := if 0 ≤ x ∧ x < N then (if 0 ≤ B x then B x else B x + 256) else -1
theorem Zand_255' : ∀ v : Fin 256, Zand (((v.val : Nat) : Int) - 128) 255 = if 0 ≤ ((v.val : Nat) : Int) - 128 then ((v.val : Nat) : Int) - 128 else ((v.val : Nat) : Int) - 128 + 256 := by decide +kernel
theorem Zand_255 {v : Int} (h : -128 ≤ v ∧ v ≤ 127) : Zand v 255 = if 0 ≤ v then v else v + 256 := by
  have q := Zand_255' ⟨(v + 128).toNat, by omega⟩
  have e : ((((⟨(v + 128).toNat, by omega⟩ : Fin 256).val : Nat) : Int) - 128) = v := by show ((((v + 128).toNat : Nat) : Int) - 128) = v; omega
  rw [e] at q
  exact q
def skF (u : Int → Int) : Nat → Int → Int
  | 0, a => a
  | f + 1, a => if u a = 32 then skF u f (a + 1) else a
def ltF (u : Int → Int) : Nat → Int → Int
  | 0, a => a
  | f + 1, a => if 97 ≤ u a ∧ u a ≤ 122 then ltF u f (a + 1) else a
def dgF (u : Int → Int) : Nat → Int → Int → Int → Int × Int
  | 0, a, _, v => (a, v)
  | f + 1, a, c, v => if 48 ≤ u a ∧ u a ≤ 57 then dgF u f (a + 1) (c + 1) (if c < 5 then v * 10 + u a - 48 else v) else (a, v)
theorem skF_s {u : Int → Int} {f : Nat} {a : Int} : skF u (f + 1) a = if u a = 32 then skF u f (a + 1) else a := rfl
theorem ltF_s {u : Int → Int} {f : Nat} {a : Int} : ltF u (f + 1) a = if 97 ≤ u a ∧ u a ≤ 122 then ltF u f (a + 1) else a := rfl
theorem dgF_s {u : Int → Int} {f : Nat} {a c v : Int} : dgF u (f + 1) a c v = if 48 ≤ u a ∧ u a ≤ 57 then dgF u f (a + 1) (c + 1) (if c < 5 then v * 10 + u a - 48 else v) else (a, v) := rfl
/-- what is told of the bytes -/
def UV (u : Int → Int) (N : Int) : Prop := (0 ≤ N ∧ N ≤ 600) ∧ (∀ x, N ≤ x → u x = -1) ∧ (∀ x, 0 ≤ x → x < N → 0 ≤ u x ∧ u x ≤ 255)
theorem uB_V {B : Int → Int} {N : Int} (hN : 0 ≤ N ∧ N ≤ 600) (hB : ∀ x, -128 ≤ B x ∧ B x ≤ 127) : UV (uB B N) N := by
  refine ⟨hN, fun x h => if_neg (by omega), fun x h0 h1 => ?_⟩
  have := hB x
  unfold uB
  rw [if_pos ⟨h0, h1⟩]
  split <;> omega
theorem skF_b {u : Int → Int} {N : Int} (h : UV u N) : ∀ (f : Nat) (a : Int), 0 ≤ a → a ≤ N → a ≤ skF u f a ∧ skF u f a ≤ N := by
  intro f
  induction f with
  | zero => intro a _ h1; exact ⟨Int.le_refl a, h1⟩
  | succ f ih =>
    intro a h0 h1
    rw [skF_s]
    split
    · rename_i c
      have : a < N := by
        rcases Int.lt_or_le a N with q | q
        · exact q
        · have := h.2.1 a q; omega
      have := ih (a + 1) (by omega) (by omega)
      omega
    · omega
theorem ltF_b {u : Int → Int} {N : Int} (h : UV u N) : ∀ (f : Nat) (a : Int), 0 ≤ a → a ≤ N → a ≤ ltF u f a ∧ ltF u f a ≤ N := by
  intro f
  induction f with
  | zero => intro a _ h1; exact ⟨Int.le_refl a, h1⟩
  | succ f ih =>
    intro a h0 h1
    rw [ltF_s]
    split
    · rename_i c
      have : a < N := by
        rcases Int.lt_or_le a N with q | q
        · exact q
        · have := h.2.1 a q; omega
      have := ih (a + 1) (by omega) (by omega)
      omega
    · omega
def dgI (c v : Int) : Prop := 0 ≤ c ∧ 0 ≤ v ∧ ((c = 0 ∧ v = 0) ∨ (c = 1 ∧ v ≤ 9) ∨ (c = 2 ∧ v ≤ 99) ∨ (c = 3 ∧ v ≤ 999) ∨ (c = 4 ∧ v ≤ 9999) ∨ (5 ≤ c ∧ v ≤ 99999))
theorem dgI_s {c v b : Int} (h : dgI c v) (hb : 48 ≤ b ∧ b ≤ 57) : dgI (c + 1) (if c < 5 then v * 10 + b - 48 else v) := by
  unfold dgI at h ⊢
  split <;> omega
theorem dgF_b {u : Int → Int} {N : Int} (h : UV u N) : ∀ (f : Nat) (a c v : Int), 0 ≤ a → a ≤ N → dgI c v → a ≤ (dgF u f a c v).1 ∧ (dgF u f a c v).1 ≤ N ∧ 0 ≤ (dgF u f a c v).2 ∧ (dgF u f a c v).2 ≤ 99999 := by
  intro f
  induction f with
  | zero => intro a c v h0 h1 hd; unfold dgI at hd; exact ⟨Int.le_refl a, h1, by show 0 ≤ v; omega, by show v ≤ 99999; omega⟩
  | succ f ih =>
    intro a c v h0 h1 hd
    rw [dgF_s]
    split
    · rename_i q
      have : a < N := by
        rcases Int.lt_or_le a N with q2 | q2
        · exact q2
        · have := h.2.1 a q2; omega
      have := ih (a + 1) (c + 1) (if c < 5 then v * 10 + u a - 48 else v) (by omega) (by omega) (dgI_s hd q)
      omega
    · unfold dgI at hd; exact ⟨Int.le_refl a, h1, by show 0 ≤ v; omega, by show v ≤ 99999; omega⟩
def sk (u : Int → Int) (a : Int) : Int := skF u 700 a
def lt (u : Int → Int) (a : Int) : Int := ltF u 700 a
def dgE (u : Int → Int) (a : Int) : Int := (dgF u 700 (sk u a) 0 0).1
def dgV (u : Int → Int) (a : Int) : Int := (dgF u 700 (sk u a) 0 0).2
/-- the fault of a number -/
def nmF (u : Int → Int) (a lo hi : Int) : Int := if dgE u a = sk u a then 1 + 4 * sk u a else if 5 < dgE u a - sk u a ∨ ¬ (lo ≤ dgV u a ∧ dgV u a ≤ hi) then 2 + 4 * sk u a else 0
theorem sk_b {u : Int → Int} {N : Int} (h : UV u N) {a : Int} (h0 : 0 ≤ a) (h1 : a ≤ N) : a ≤ sk u a ∧ sk u a ≤ N := skF_b h 700 a h0 h1
theorem lt_b {u : Int → Int} {N : Int} (h : UV u N) {a : Int} (h0 : 0 ≤ a) (h1 : a ≤ N) : a ≤ lt u a ∧ lt u a ≤ N := ltF_b h 700 a h0 h1
theorem dg_b {u : Int → Int} {N : Int} (h : UV u N) {a : Int} (h0 : 0 ≤ a) (h1 : a ≤ N) : a ≤ sk u a ∧ sk u a ≤ dgE u a ∧ dgE u a ≤ N ∧ 0 ≤ dgV u a ∧ dgV u a ≤ 99999 := by
  have q := sk_b h h0 h1
  have q2 := dgF_b h 700 (sk u a) 0 0 (by omega) (by omega) (by unfold dgI; omega)
  exact ⟨q.1, q2.1, q2.2.1, q2.2.2.1, q2.2.2.2⟩
theorem nmF_b {u : Int → Int} {N : Int} (h : UV u N) {a lo hi : Int} (h0 : 0 ≤ a) (h1 : a ≤ N) : nmF u a lo hi = 0 ∨ 1 ≤ nmF u a lo hi := by
  have q := sk_b h h0 h1
  unfold nmF
  split
  · right; omega
  · split
    · right; omega
    · left; rfl
theorem nmF_0 {u : Int → Int} {N : Int} (h : UV u N) {a lo hi : Int} (h0 : 0 ≤ a) (h1 : a ≤ N) (hz : nmF u a lo hi = 0) : a + 1 ≤ dgE u a ∧ lo ≤ dgV u a ∧ dgV u a ≤ hi := by
  have q := dg_b h h0 h1
  unfold nmF at hz
  split at hz
  · omega
  · split at hz
    · omega
    · omega
/-- the word of number i stands from s to e -/
def wB (i : Int) (u : Int → Int) (s e : Int) : Bool := decide (e - s = slF i) && (List.range (slF i).toNat).all (fun j => decide (u (s + (j : Int)) = scF i (j : Int)))
theorem wB_iff {i : Int} {u : Int → Int} {s e : Int} : wB i u s e = true ↔ e - s = slF i ∧ ∀ j, 0 ≤ j → j < slF i → u (s + j) = scF i j := by
  unfold wB
  rw [Bool.and_eq_true, decide_eq_true_iff, List.all_eq_true]
  constructor
  · rintro ⟨h1, h2⟩
    refine ⟨h1, fun j h0 hj => ?_⟩
    have q := of_decide_eq_true (h2 j.toNat (List.mem_range.mpr (by omega)))
    rw [show ((j.toNat : Nat) : Int) = j by omega] at q
    exact q
  · rintro ⟨h1, h2⟩
    refine ⟨h1, fun j hj => decide_eq_true (h2 j (by omega) ?_)⟩
    have := List.mem_range.mp hj
    omega
theorem wd_dist : ∀ i j : Fin 7, slF (i.val : Int) = slF (j.val : Int) → (∀ k : Fin 5, (k.val : Int) < slF (i.val : Int) → scF (i.val : Int) (k.val : Int) = scF (j.val : Int) (k.val : Int)) → i = j := by decide +kernel
theorem slF_b : ∀ i : Fin 7, 3 ≤ slF (i.val : Int) ∧ slF (i.val : Int) ≤ 5 := by decide +kernel
theorem wB_u {i j : Nat} (hi : i < 7) (hj : j < 7) {u : Int → Int} {s e : Int} (h1 : wB i u s e = true) (h2 : wB j u s e = true) : i = j := by
  obtain ⟨a1, a2⟩ := wB_iff.mp h1
  obtain ⟨b1, b2⟩ := wB_iff.mp h2
  have e1 : slF (i : Int) = slF (j : Int) := by omega
  have q := wd_dist ⟨i, hi⟩ ⟨j, hj⟩ e1 (fun k hk => by rw [← a2 k.val (by omega) hk, ← b2 k.val (by omega) (by rw [← e1]; exact hk)])
  exact Fin.mk.inj q
def kd (u : Int → Int) (s e : Int) : Int := if wB 1 u s e = true then 0 else if wB 2 u s e = true then 1 else if wB 3 u s e = true then 2 else if wB 4 u s e = true then 3 else if wB 5 u s e = true then 4 else if wB 6 u s e = true then 5 else -1
theorem kd_b {u : Int → Int} {s e : Int} : (-1 ≤ kd u s e ∧ kd u s e ≤ 5) ∧ (¬ kd u s e = -1 → s + 3 ≤ e) := by
  have z : ∀ i : Nat, i < 7 → wB (i : Int) u s e = true → s + 3 ≤ e := fun i hi h => by
    have := (wB_iff.mp h).1
    have q : 3 ≤ slF (i : Int) ∧ slF (i : Int) ≤ 5 := slF_b ⟨i, hi⟩
    omega
  unfold kd
  split
  · rename_i h; exact ⟨by omega, fun _ => z 1 (by omega) h⟩
  split
  · rename_i h; exact ⟨by omega, fun _ => z 2 (by omega) h⟩
  split
  · rename_i h; exact ⟨by omega, fun _ => z 3 (by omega) h⟩
  split
  · rename_i h; exact ⟨by omega, fun _ => z 4 (by omega) h⟩
  split
  · rename_i h; exact ⟨by omega, fun _ => z 5 (by omega) h⟩
  split
  · rename_i h; exact ⟨by omega, fun _ => z 6 (by omega) h⟩
  · exact ⟨by omega, fun h => absurd rfl h⟩
def loK (k : Int) : Int := if k = 2 ∨ k = 3 then 50 else 0
def hiK (k : Int) : Int := if k = 0 then 480 else if k = 1 then 100 else if k = 2 ∨ k = 3 then 300 else if k = 4 then 5000 else 1000
def ce (u : Int → Int) (a : Int) : Int := lt u (sk u a)
def ca1 (u : Int → Int) (a : Int) : Int := dgE u (ce u a)
def cs2 (u : Int → Int) (a : Int) : Int := sk u (ca1 u a)
def ce2 (u : Int → Int) (a : Int) : Int := lt u (cs2 u a)
def ck (u : Int → Int) (a : Int) : Int := kd u (cs2 u a) (ce2 u a)
def ca2 (u : Int → Int) (a : Int) : Int := if ck u a = 5 then dgE u (ce2 u a) else ce2 u a
def cg (u : Int → Int) (a : Int) : Int := if ck u a = 5 then dgV u (ce2 u a) else 0
def ca3 (u : Int → Int) (a : Int) : Int := dgE u (ca2 u a)
def cn (u : Int → Int) (a : Int) : Int := dgV u (ca2 u a)
def ca4 (u : Int → Int) (a : Int) : Int := if ck u a = 4 then dgE u (ca3 u a) else ca3 u a
def csh (u : Int → Int) (a : Int) : Int := if ck u a = 4 then dgV u (ca3 u a) else 0
def f0 (u : Int → Int) (a : Int) : Int := if wB 0 u (sk u a) (ce u a) = true then 0 else 1 + 4 * sk u a
def f1 (u : Int → Int) (a : Int) : Int := nmF u (ce u a) 0 999
def f2 (u : Int → Int) (a : Int) : Int := if ck u a = -1 then 1 + 4 * cs2 u a else 0
def f3 (u : Int → Int) (a : Int) : Int := if ck u a = 5 then nmF u (ce2 u a) 1 5 else 0
def f4 (u : Int → Int) (a : Int) : Int := nmF u (ca2 u a) (loK (ck u a)) (hiK (ck u a))
def f5 (u : Int → Int) (a : Int) : Int := if ck u a = 4 then nmF u (ca3 u a) 0 100 else 0
/-- the first that isn't 0 -/
def o0 (a b : Int) : Int := if a = 0 then b else a
/-- the fault of a clause, and the clause: day, key, number, share -/
def cf (u : Int → Int) (a : Int) : Int := o0 (o0 (o0 (o0 (o0 (f0 u a) (f1 u a)) (f2 u a)) (f3 u a)) (f4 u a)) (f5 u a)
abbrev Cl : Type := Int × Int × Int × Int
def ccl (u : Int → Int) (a : Int) : Cl := (dgV u (ce u a), if ck u a = 5 then 10 + cg u a else ck u a, cn u a, csh u a)
theorem o0_0 {a b : Int} (h : o0 a b = 0) : a = 0 ∧ b = 0 := by
  unfold o0 at h
  split at h
  · rename_i q; exact ⟨q, h⟩
  · contradiction
/-- all places of a clause are in order -/
theorem cl_b {u : Int → Int} {N : Int} (h : UV u N) {a : Int} (h0 : 0 ≤ a) (h1 : a ≤ N) : (a ≤ sk u a ∧ sk u a ≤ ce u a ∧ ce u a ≤ ca1 u a ∧ ca1 u a ≤ cs2 u a ∧ cs2 u a ≤ ce2 u a ∧ ce2 u a ≤ ca2 u a ∧ ca2 u a ≤ ca3 u a ∧ ca3 u a ≤ ca4 u a ∧ ca4 u a ≤ N) := by
  have q1 := sk_b h h0 h1
  have q2 : sk u a ≤ ce u a ∧ ce u a ≤ N := lt_b h (by omega) (by omega)
  have q3 := dg_b h (a := ce u a) (by omega) (by omega)
  have q3' : ca1 u a = dgE u (ce u a) := rfl
  have q4 : ca1 u a ≤ cs2 u a ∧ cs2 u a ≤ N := sk_b h (by omega) (by omega)
  have q5 : cs2 u a ≤ ce2 u a ∧ ce2 u a ≤ N := lt_b h (by omega) (by omega)
  have q6 := dg_b h (a := ce2 u a) (by omega) (by omega)
  have q7 : ce2 u a ≤ ca2 u a ∧ ca2 u a ≤ N := by unfold ca2; split <;> omega
  have q8 := dg_b h (a := ca2 u a) (by omega) (by omega)
  have q8' : ca3 u a = dgE u (ca2 u a) := rfl
  have q9 := dg_b h (a := ca3 u a) (by omega) (by omega)
  have q10 : ca3 u a ≤ ca4 u a ∧ ca4 u a ≤ N := by unfold ca4; split <;> omega
  omega
theorem cf_0 {u : Int → Int} {a : Int} (hz : cf u a = 0) : f0 u a = 0 ∧ f1 u a = 0 ∧ f2 u a = 0 ∧ f3 u a = 0 ∧ f4 u a = 0 ∧ f5 u a = 0 := by
  unfold cf at hz
  obtain ⟨z1, z2⟩ := o0_0 hz
  obtain ⟨z3, z4⟩ := o0_0 z1
  obtain ⟨z5, z6⟩ := o0_0 z3
  obtain ⟨z7, z8⟩ := o0_0 z5
  obtain ⟨z9, z10⟩ := o0_0 z7
  exact ⟨z9, z10, z8, z6, z4, z2⟩
theorem cf_9 {u : Int → Int} {N : Int} (h : UV u N) {a : Int} (h0 : 0 ≤ a) (h1 : a ≤ N) (hz : cf u a = 0) : a + 9 ≤ ca4 u a := by
  obtain ⟨z0, z1, z2, z3, z4, z5⟩ := cf_0 hz
  have b := cl_b h h0 h1
  have w0 : ce u a = sk u a + 4 := by
    unfold f0 at z0
    split at z0
    · rename_i q
      have := (wB_iff.mp q).1
      rw [show slF 0 = 4 from by decide] at this
      omega
    · omega
  have n1 := nmF_0 h (a := ce u a) (by omega) (by omega) z1
  have n1' : ca1 u a = dgE u (ce u a) := rfl
  have k3 : cs2 u a + 3 ≤ ce2 u a := kd_b.2 (by
    unfold f2 at z2
    split at z2
    · omega
    · assumption)
  have n4 := nmF_0 h (a := ca2 u a) (by omega) (by omega) z4
  have n4' : ca3 u a = dgE u (ca2 u a) := rfl
  omega
/-- the clauses of a text, from a place on: the fault, and the clauses -/
def paF (u : Int → Int) : Nat → Int → List Cl → Int × List Cl
  | 0, _, l => (0, l)
  | f + 1, a, l => if cf u a = 0 then (if u (sk u (ca4 u a)) = -1 then (0, l ++ [ccl u a]) else if u (sk u (ca4 u a)) = 59 then paF u f (sk u (ca4 u a) + 1) (l ++ [ccl u a]) else (1 + 4 * sk u (ca4 u a), l ++ [ccl u a])) else (cf u a, l)
theorem paF_s {u : Int → Int} {f : Nat} {a : Int} {l : List Cl} : paF u (f + 1) a l = if cf u a = 0 then (if u (sk u (ca4 u a)) = -1 then (0, l ++ [ccl u a]) else if u (sk u (ca4 u a)) = 59 then paF u f (sk u (ca4 u a) + 1) (l ++ [ccl u a]) else (1 + 4 * sk u (ca4 u a), l ++ [ccl u a])) else (cf u a, l) := rfl
def paR (u : Int → Int) : Int × List Cl := if u (sk u 0) = -1 then (0, []) else paF u 700 (sk u 0) []
theorem u_end {u : Int → Int} {N : Int} (h : UV u N) {x : Int} (h0 : 0 ≤ x) : u x = -1 ↔ N ≤ x := by
  constructor
  · intro q
    rcases Int.lt_or_le x N with q2 | q2
    · have := h.2.2 x h0 q2; omega
    · exact q2
  · exact h.2.1 x
