/-! grade, teams, team, journeys, fee, tells, fees -/
set_option maxHeartbeats 2000000 in
theorem o_grade {X : Int → Int} {p t y : Int} : OP X 91 131 0 [(0, p), (0, t), (0, y)] := fun σ n hI => by
  have p1 := hI.p.1
  have p2 := hI.p.2.1
  have hz : Zsub (σ 69 2) 1 = σ 69 2 - 1 := Zs1 (by omega)
  refine s_grade (d := 17) hI.g hI.a.2.1 (fun c τ hg hf => ⟨_, rfl, fun j => by rw [hf _ _ (by decide)]; exact hI.s j, ?_⟩) (fun c => ⟨_, rfl, hI.s, ?_⟩)
  · have F : ∀ c j, ¬ c = 13 → τ c j = σ c j := hf
    have hI' : INV X τ n := hI.fr hg (fun c j q => hf c j (by omega))
    have e2 : τ 69 2 = σ 69 2 := hf _ _ (by decide)
    have ia : IA σ τ := (hI.a.fr (a' := σ) (b' := τ) (fun _ _ _ => rfl) (fun c j q => F c j (by omega)))
    refine m_grade (d := 17) hg (PM_of ia) (by rw [e2]; exact hz) (fun v hv => ⟨?_, hI'⟩)
    rw [hv, e2, if_pos (by omega), gd_eq ia]
  · refine m_grade (d := 17) hI.g (PM_of hI.a) hz (fun v hv => ⟨?_, hI⟩)
    rw [hv, if_neg (by omega)]
theorem o_teams {X : Int → Int} {h : Int} : OP X 97 144 0 [(0, h)] := fun σ n hI => by
  have p1 := hI.p.1
  have p2 := hI.p.2.1
  obtain ⟨h1, h2, h3, h4, h5⟩ := hI.h
  have n1 := h1.1
  have n2 := h1.2.1
  have hz : Zsub (σ 69 12) 1 = σ 69 12 - 1 := Zs1 (by omega)
  refine s_teams (d := 14) hI.g h1 hI.a.2.1 (fun h h0 h1 => (h4 h h0 h1).1) (fun c τ hg hf => ⟨_, rfl, fun j => by rw [hf _ _ (by omega) (by omega) (by omega)]; exact hI.s j, ?_⟩) (fun c => ⟨_, rfl, hI.s, ?_⟩)
  · have F : ∀ c j, ¬ (c = 13 ∨ (16 ≤ c ∧ c ≤ 20)) → τ c j = σ c j := fun c j q => hf c j (by omega) (by omega) (by omega)
    have hI' : INV X τ n := hI.fr hg (fun c j q => F c j (by omega))
    have ia : IA σ τ := (hI.a.fr (a' := σ) (b' := τ) (fun _ _ _ => rfl) (fun c j q => F c j (by omega)))
    have ip : IP σ τ := (hI.p.fr (a' := σ) (b' := τ) (fun _ _ _ => rfl) (fun c j q => F c j (by omega)))
    have ih : IH σ τ n := (hI.h.fr (a' := σ) (b' := τ) (fun _ _ _ => rfl) (fun c j q => F c j (by omega)))
    have e12 : τ 69 12 = σ 69 12 := F _ _ (by decide)
    refine m_teams (d := 15) (P := (σ 3 2).toNat) hg (PM_of ia) (HM_of ih) (by rw [e12]; exact hz) (by rw [← ip.1]; omega) (by omega) (fun c' ρ hg2 hf2 => ⟨?_, hI'.fr hg2 (fun c j q => hf2 c j (by omega))⟩) (fun c' => absurd (by rw [e12, ← h2]; exact c) c')
    rw [tm_eq ip ia ih (P := (σ 3 2).toNat) (by omega) c.1 c.2]
  · exact m_teams (d := 15) (P := (σ 3 2).toNat) hI.g (PM_of hI.a) (HM_of hI.h) hz (by rw [← p1]; omega) (by omega) (fun c' => absurd (by rw [h2]; exact c') c) (fun _ => ⟨rfl, hI⟩)
theorem o_team {X : Int → Int} {h i w : Int} : OP X 98 145 0 [(0, h), (0, i), (0, w)] := fun σ n hI => by
  have p1 := hI.p.1
  have p2 := hI.p.2.1
  obtain ⟨h1, h2, h3, h4, h5⟩ := hI.h
  have n1 := h1.1
  have n2 := h1.2.1
  have hz : Zsub (σ 69 12) 1 = σ 69 12 - 1 := Zs1 (by omega)
  refine s_team (d := 14) hI.g h1 hI.a.2.1 (fun h h0 h1 => (h4 h h0 h1).1) (fun c τ v hg hf hv => ⟨_, rfl, fun j => by rw [hf _ _ (by omega) (by omega) (by omega)]; exact hI.s j, ?_⟩) (fun c => ⟨_, rfl, hI.s, ?_⟩)
  · have F : ∀ c j, ¬ (c = 13 ∨ (16 ≤ c ∧ c ≤ 20)) → τ c j = σ c j := fun c j q => hf c j (by omega) (by omega) (by omega)
    have hP5 : (σ 3 2).toNat ≤ 5 := by clear hv; omega
    have hPp : σ 3 2 = ((σ 3 2).toNat : Int) := by clear hv; omega
    have hI' : INV X τ n := by clear hv; exact hI.fr hg (fun c j q => F c j (by omega))
    have ia : IA σ τ := by clear hv; exact (hI.a.fr (a' := σ) (b' := τ) (fun _ _ _ => rfl) (fun c j q => F c j (by omega)))
    have ip : IP σ τ := by clear hv; exact (hI.p.fr (a' := σ) (b' := τ) (fun _ _ _ => rfl) (fun c j q => F c j (by omega)))
    have ih : IH σ τ n := by clear hv; exact (hI.h.fr (a' := σ) (b' := τ) (fun _ _ _ => rfl) (fun c j q => F c j (by omega)))
    have e12 : τ 69 12 = σ 69 12 := F _ _ (by decide)
    refine m_team (d := 15) (P := (σ 3 2).toNat) hg (PM_of ia) (HM_of ih) (by rw [e12]; exact hz) (by rw [← ip.1]; exact hPp) hP5 (fun c' ρ v' hg2 hf2 hv' => ⟨?_, by clear hv hv'; exact hI'.fr hg2 (fun c j q => hf2 c j (by omega))⟩) (fun c' => absurd (by rw [e12, ← h2]; exact c) c')
    rw [hv, hv', tm_eq ip ia ih (P := (σ 3 2).toNat) hPp c.1 c.2]
  · exact m_team (d := 15) (P := (σ 3 2).toNat) hI.g (PM_of hI.a) (HM_of hI.h) hz (by rw [← p1]; omega) (by omega) (fun c' => absurd (by rw [h2]; exact c') c) (fun _ => ⟨rfl, hI⟩)
theorem jr_eq {a b : Mem} {n : Nat} (hW : IW a b) (hP : IP a b) (hH : IH a b n) {p y : Int} (p0 : 0 ≤ p) (p1 : p < a 3 2) : trT (wyC a) (fun h => a (114 + h) 2) (a 4 p) (isR (fun h => a (114 + h) 6) (dlN (fun h => lvC a y h && seC a p h) (a 14 1).toNat)) = if dlN (fun h => lvM b y h && seM b p h) (b 69 12).toNat = [] then 0 else trT (wyM b) (b 83) (b 72 p) (isR (b 81) (dlN (fun h => lvM b y h && seM b p h) (b 69 12).toNat)) := by
  rw [← ds_eq hH p0]
  have hl : ∀ h ∈ dlN (fun h => lvC a y h && seC a p h) (a 14 1).toNat, 0 ≤ h ∧ h < a 14 1 := fun h hh => by have := dlN_b _ h hh; have := hH.1.1; omega
  generalize dlN (fun h => lvC a y h && seC a p h) (a 14 1).toNat = L at *
  have hh := hP.2.2.2.1 p p0 p1
  rw [is_eq hH hl, tr_eq hW hH hh (fun h q => hl h (isR_mem.mp q)), ← hP.2.2.1]
  by_cases e : L = []
  · rw [if_pos e, e]; exact tr_nil hW hh
  · rw [if_neg e]
theorem o_journeys {X : Int → Int} {p y : Int} : OP X 103 159 0 [(0, p), (0, y)] := fun σ n hI => by
  have p1 := hI.p.1
  have p2 := hI.p.2.1
  obtain ⟨h1, h2, h3, h4, h5⟩ := hI.h
  have hb : 0 ≤ σ 69 12 ∧ σ 69 12 ≤ 24 := by rw [← h2]; exact ⟨h1.1, h1.2.1⟩
  have hh : ∀ b : Mem, IP σ b → ∀ q, 0 ≤ q → q < b 69 2 → 0 ≤ b 72 q ∧ b 72 q ≤ 5 := fun b hp q q0 q1 => by rw [← hp.2.2.1]; exact hI.p.2.2.2.1 q q0 (by rw [hp.1]; exact q1)
  refine s_journeys (d := 15) hI.g h1 hI.w.2.1 (h5 y) (fun c τ hf => ⟨_, rfl, fun j => by rw [hf _ _ (by omega) (by omega) (by omega)]; exact hI.s j, ?_⟩) (fun c => ⟨_, rfl, hI.s, ?_⟩)
  · have hg : GR τ := GR.frS hI.g hf
    have F : ∀ c j, ¬ ((c = 21 ∧ j = 2) ∨ (22 ≤ c ∧ c ≤ 23)) → τ c j = σ c j := fun c j q => hf c j (by omega) (by omega) (by omega)
    have hI' : INV X τ n := hI.fr hg (fun c j q => F c j (by omega))
    have iw : IW σ τ := (hI.w.fr (a' := σ) (b' := τ) (fun _ _ _ => rfl) (fun c j q => F c j (by omega)))
    have ip : IP σ τ := (hI.p.fr (a' := σ) (b' := τ) (fun _ _ _ => rfl) (fun c j q => F c j (by omega)))
    have ih : IH σ τ n := (hI.h.fr (a' := σ) (b' := τ) (fun _ _ _ => rfl) (fun c j q => F c j (by omega)))
    refine m_journeys (d := 17) hg (WM_of iw) (by rw [← ih.2.1]; exact ⟨h1.1, h1.2.1⟩) (by rw [← ip.1]; exact p2) (hh τ ip) (HR_of ih) (fun c' ρ hf2 => ⟨?_, hI'.fr (GR.fr (fun c j => decide (c = 97) || (decide (c = 69) && decide (j = 33))) hg (fun c j q => hf2 c j (fun z => by simp [z] at q) (fun z => by simp [z.1, z.2] at q)) (by decide)) (fun c j q => hf2 c j (by omega) (by omega))⟩) (fun c' => absurd (by rw [← ip.1]; omega) c')
    rw [jr_eq iw ip ih c.1.1 c.1.2.1]
  · exact m_journeys (d := 17) hI.g (WM_of hI.w) hb (by rw [← p1]; exact p2) (hh σ hI.p) (HR_of hI.h) (fun c' => absurd (by omega) c) (fun _ => ⟨rfl, hI⟩)
theorem Zlmul_0 {x : Int} : Zlmul 0 x = 0 := by
  unfold Zlmul
  rw [show Int64.ofInt 0 = 0 from rfl, Int64.zero_mul]; rfl
theorem o_fee {X : Int → Int} {p y : Int} : OP X 108 172 2 [(0, p), (0, y)] := fun σ n hI => by
  have p1 := hI.p.1
  have p2 := hI.p.2.1
  obtain ⟨h1, h2, h3, h4, h5⟩ := hI.h
  obtain ⟨fT, l, c1, c2, c3⟩ := hI.f
  have hb : 0 ≤ σ 69 12 ∧ σ 69 12 ≤ 24 := by rw [← h2]; exact ⟨h1.1, h1.2.1⟩
  have hh : ∀ b : Mem, IP σ b → ∀ q, 0 ≤ q → q < b 69 2 → 0 ≤ b 72 q ∧ b 72 q ≤ 5 := fun b hp q q0 q1 => by rw [← hp.2.2.1]; exact hI.p.2.2.2.1 q q0 (by rw [hp.1]; exact q1)
  have hgr : ∀ b : Mem, IH σ b n → ∀ h, 0 ≤ h → h < b 69 12 → 1 ≤ b 85 h ∧ b 85 h ≤ 5 := fun b hH h q0 q1 => by
    have q := h4 h q0 (by rw [hH.2.1]; exact q1)
    rw [(hH.2.2.2.1 h q0 (by rw [hH.2.1]; exact q1)).2.1.2.2.2.2.2.2]
    exact q.1.2.2.2.2.1
  refine s_fee (d := 15) hI.g h1 hI.w.2.1 (by omega) (by rw [c1.1]; omega) (fun h h0 h1 => (h4 h h0 h1).1) (h5 y) (fun c τ hf => ⟨_, rfl, fun j => by rw [hf _ _ (by omega) (by omega) (by omega)]; exact hI.s j, ?_⟩) (fun c => ⟨_, rfl, hI.s, ?_⟩)
  · have hg : GR τ := GR.frS hI.g hf
    have F : ∀ c j, ¬ ((c = 21 ∧ j = 2) ∨ (22 ≤ c ∧ c ≤ 23)) → τ c j = σ c j := fun c j q => hf c j (by omega) (by omega) (by omega)
    have hI' : INV X τ n := hI.fr hg (fun c j q => F c j (by omega))
    have iw : IW σ τ := (hI.w.fr (a' := σ) (b' := τ) (fun _ _ _ => rfl) (fun c j q => F c j (by omega)))
    have ip : IP σ τ := (hI.p.fr (a' := σ) (b' := τ) (fun _ _ _ => rfl) (fun c j q => F c j (by omega)))
    have ih : IH σ τ n := (hI.h.fr (a' := σ) (b' := τ) (fun _ _ _ => rfl) (fun c j q => F c j (by omega)))
    have jf : IF σ τ := (hI.f.fr (a' := σ) (b' := τ) (fun _ _ _ => rfl) (fun c j q => F c j (by omega)))
    refine m_fee (d := 16) hg (WM_of iw) (by rw [F _ _ (by decide), c2.1]; omega) (by rw [← ih.2.1]; exact ⟨h1.1, h1.2.1⟩) (by rw [← ip.1]; exact p2) (hh τ ip) (HR_of ih) (hgr τ ih) (fun c' ρ hf2 => ⟨?_, hI'.fr (GR.fr (fun c j => decide (c = 97) || (decide (c = 69) && decide (j = 33))) hg (fun c j q => hf2 c j (fun z => by simp [z] at q) (fun z => by simp [z.1, z.2] at q)) (by decide)) (fun c j q => hf2 c j (by omega) (by omega))⟩) (fun c' => absurd (by rw [← ip.1]; omega) c')
    rw [jr_eq iw ip ih c.1.1 c.1.2.1, fe_eq jf ih c.1.1, tl_eq jf]
    have hlen : (dlN (fun h => lvM τ y h && seM τ p h) (τ 69 12).toNat).length ≤ 4 := by
      rw [← ds_eq ih c.1.1, ← dlN_filter]
      exact Nat.le_trans (List.length_filter_le _ _) (h5 y)
    generalize dlN (fun h => lvM τ y h && seM τ p h) (τ 69 12).toNat = L at *
    by_cases e : L = []
    · rw [if_pos e, if_pos e, show Zldiv 0 10 = 0 from by decide, Zlmul_0, Zladd_0 (x := feM τ p y (τ 69 12).toNat) (feN_r _)]
    · rw [if_neg e, if_neg e]
      have b1 := trR_b (w := wyM τ) (tw := τ 83) (home := τ 72 p) (wyM_b (WM_of iw)) (isR (τ 81) L)
      have b2 := wyM_b (WM_of iw) (trR (wyM τ) (τ 83) (τ 72 p) (isR (τ 81) L)).1 (τ 72 p)
      rw [isR_len] at b1
      rw [Zdiv10 (by unfold trT; omega) (by unfold trT; omega)]
  · exact m_fee (d := 16) hI.g (WM_of hI.w) (by rw [c2.1]; omega) hb (by rw [← p1]; exact p2) (hh σ hI.p) (HR_of hI.h) (hgr σ hI.h) (fun c' => absurd (by omega) c) (fun _ => ⟨rfl, hI⟩)
theorem o_tells {X : Int → Int} {y w : Int} : OP X 107 171 0 [(0, y), (0, w)] := fun σ n hI => by
  obtain ⟨fT, l, c1, c2, c3⟩ := hI.f
  have hT : σ 0 9 = 59 ∨ σ 0 9 = 64 := by omega
  have b1 : 0 ≤ σ (σ 0 9) 4 ∧ σ (σ 0 9) 4 ≤ 60 := by rw [c1.1]; omega
  have b2 : 0 ≤ σ 69 43 ∧ σ 69 43 ≤ 60 := by rw [c2.1]; omega
  refine s_tells (d := 17) hI.g hT b1 (fun v hv => ⟨v, rfl, hI.s, ?_⟩)
  refine m_tells (d := 17) hI.g b2 (fun v' hv' => ⟨?_, hI⟩)
  rw [hv, hv', tl_eq hI.f]
theorem o_fees {X : Int → Int} : OP X 106 168 0 [] := fun σ n hI => by
  obtain ⟨fT, l, c1, c2, c3⟩ := hI.f
  obtain ⟨t1, t2, t3, t4⟩ := hI.t
  have eu : ∀ τ : Mem, IT σ τ → uM τ = uC σ := fun τ h => by unfold uM uC; rw [show τ 98 = σ 51 from (funext h.2.2.1).symm, ← h.1]
  have hBM : ∀ τ : Mem, IT σ τ → BM τ := fun τ h => ⟨by rw [← h.1]; exact t2.1, fun x => by rw [← h.2.2.1]; exact t2.2 x, h.2.2.2⟩
  refine s_fees (d := 13) hI.g t2 fT (fun c τ hg hf e1 e2 e3 hC => ⟨_, rfl, fun j => by rw [hf _ _ (by omega) (by omega) (by omega) (by omega)]; exact hI.s j, ?_⟩) (fun c τ hg hf e1 => ⟨_, rfl, fun j => by rw [hf _ _ (by omega) (by omega) (by omega)]; exact hI.s j, ?_⟩)
  · have it : IT σ τ := hI.t.fr (fun _ _ _ => rfl) (fun c j q => hf c j (by omega) (by omega) (by omega) (by omega))
    refine m_fees (d := 16) hg (hBM τ it) (fun c' ρ hg2 hf2 e4 hK => ?_) (fun c' => absurd (by rw [eu τ it]; exact c) c')
    rw [eu τ it] at hK
    have F : ∀ c j, ¬ ((c = 50 ∧ (1 ≤ j ∧ j ≤ 3)) ∨ (c = σ 0 10 ∧ j = 4) ∨ (σ 0 10 + 1 ≤ c ∧ c ≤ σ 0 10 + 4) ∨ (c = 0 ∧ (j = 9 ∨ j = 10)) ∨ (c = 69 ∧ (j = 40 ∨ j = 41 ∨ j = 42 ∨ j = 43 ∨ j = 54 ∨ j = 48)) ∨ (99 ≤ c ∧ c ≤ 106)) → ρ c j = σ c j := fun c j q => by rw [hf2 c j (by omega) (by omega)]; exact hf c j (by omega) (by omega) (by omega) (by omega)
    refine ⟨rfl, hg2, fun j => by rw [F _ _ (by omega)]; exact hI.s j, (hI.w.fr (fun c j q => F c j (by omega)) (fun c j q => F c j (by omega))), (hI.p.fr (fun c j q => F c j (by omega)) (fun c j q => F c j (by omega))), (hI.a.fr (fun c j q => F c j (by omega)) (fun c j q => F c j (by omega))), (hI.h.fr (fun c j q => F c j (by omega)) (fun c j q => F c j (by omega))), (hI.l.fr (fun c j q => F c j (by omega)) (fun c j q => F c j (by omega))), ⟨?_, ⟨?_, ?_⟩, ?_, ?_⟩, ⟨?_, (paR (uC σ)).2, ?_, hK, ?_⟩, (hI.q.fr (fun c j q => F c j (by omega)) (fun c j q => F c j (by omega)))⟩
    · rw [hf2 50 3 (by omega) (by omega), e1, e4]
    · rw [hf2 50 3 (by omega) (by omega), e1]; omega
    · intro x; rw [F 51 x (by omega)]; exact t2.2 x
    · intro x; rw [F 51 x (by omega), F 98 x (by omega)]; exact t3 x
    · intro x x0 x1; rw [F 107 x (by omega)]; exact t4 x x0 x1
    · rw [hf2 0 9 (by omega) (by omega), hf2 0 10 (by omega) (by omega), e2, e3]; omega
    · rw [hf2 0 9 (by omega) (by omega), e2]; exact hC.fr2 (fun c j q => hf2 c j (by omega) (by omega))
    · rw [← eu τ it]; exact paR_len (hBM τ it).uv
  · have it : IT σ τ := hI.t.fr (fun _ _ _ => rfl) (fun c j q => hf c j (by omega) (by omega) (by omega))
    refine m_fees (d := 16) hg (hBM τ it) (fun c' => absurd (by rw [← eu τ it]; exact c') c) (fun c' ρ hg2 hf2 e4 => ?_)
    rw [eu τ it]
    have F : ∀ c j, ¬ ((c = 50 ∧ (1 ≤ j ∧ j ≤ 3)) ∨ (c = σ 0 10 ∧ j = 4) ∨ (σ 0 10 + 1 ≤ c ∧ c ≤ σ 0 10 + 4) ∨ (c = 69 ∧ (j = 40 ∨ j = 41 ∨ j = 42 ∨ j = 54 ∨ j = 48)) ∨ (103 ≤ c ∧ c ≤ 106)) → ρ c j = σ c j := fun c j q => by rw [hf2 c j (by omega) (by omega)]; exact hf c j (by omega) (by omega) (by omega)
    refine ⟨rfl, hg2, fun j => by rw [F _ _ (by omega)]; exact hI.s j, (hI.w.fr (fun c j q => F c j (by omega)) (fun c j q => F c j (by omega))), (hI.p.fr (fun c j q => F c j (by omega)) (fun c j q => F c j (by omega))), (hI.a.fr (fun c j q => F c j (by omega)) (fun c j q => F c j (by omega))), (hI.h.fr (fun c j q => F c j (by omega)) (fun c j q => F c j (by omega))), (hI.l.fr (fun c j q => F c j (by omega)) (fun c j q => F c j (by omega))), ⟨?_, ⟨?_, ?_⟩, ?_, ?_⟩, ⟨?_, l, ?_, c2.fr2 (fun c j q => F c j (by omega)), c3⟩, (hI.q.fr (fun c j q => F c j (by omega)) (fun c j q => F c j (by omega)))⟩
    · rw [hf2 50 3 (by omega) (by omega), e1, e4]
    · rw [hf2 50 3 (by omega) (by omega), e1]; omega
    · intro x; rw [F 51 x (by omega)]; exact t2.2 x
    · intro x; rw [F 51 x (by omega), F 98 x (by omega)]; exact t3 x
    · intro x x0 x1; rw [F 107 x (by omega)]; exact t4 x x0 x1
    · rw [F 0 9 (by omega), F 0 10 (by omega)]; exact fT
    · rw [F 0 9 (by omega)]; exact c1.fr2 (fun c j q => F c j (by omega))
