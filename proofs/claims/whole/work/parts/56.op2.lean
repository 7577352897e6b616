/-! the operations that need no glue, 2 -/
set_option maxHeartbeats 2000000 in
theorem o_paper {X : Int → Int} {p t g f l : Int} : OP X 89 128 0 [(0, p), (0, t), (0, g), (0, f), (0, l)] := fun σ n hI => by
  obtain ⟨p1, p2, p3, p4, p5, p6⟩ := hI.p
  obtain ⟨a1, a2, a7, a8, a9, a10, a11, a12⟩ := hI.a
  obtain ⟨v1, v2, v3⟩ := a2
  refine s_paper (d := 17) hI.g v1 (fun c => ⟨_, rfl, fun j => ?_, ?_⟩) (fun c => ⟨_, rfl, hI.s, ?_⟩)
  · simp (disch := decide) only [wr_ne]; exact hI.s j
  · have hg : GR (wrM (wrM (wrM (wrM (wrM (wrM σ 8 (σ 6 7) p) 9 (σ 6 7) t) 10 (σ 6 7) g) 11 (σ 6 7) f) 12 (σ 6 7) l) 6 7 (σ 6 7 + 1)) := GR.wr (GR.wrk (GR.wrk (GR.wrk (GR.wrk (GR.wrk hI.g (by decide)) (by decide)) (by decide)) (by decide)) (by decide)) (by decide)
    have e4 : wrM (wrM (wrM (wrM (wrM (wrM σ 8 (σ 6 7) p) 9 (σ 6 7) t) 10 (σ 6 7) g) 11 (σ 6 7) f) 12 (σ 6 7) l) 6 7 (σ 6 7 + 1) 69 4 = σ 6 7 := by simp (disch := decide) only [wr_ne]; exact a1.symm
    have e2 : wrM (wrM (wrM (wrM (wrM (wrM σ 8 (σ 6 7) p) 9 (σ 6 7) t) 10 (σ 6 7) g) 11 (σ 6 7) f) 12 (σ 6 7) l) 6 7 (σ 6 7 + 1) 69 2 = σ 3 2 := by simp (disch := decide) only [wr_ne]; exact p1.symm
    generalize hτ : wrM (wrM (wrM (wrM (wrM (wrM σ 8 (σ 6 7) p) 9 (σ 6 7) t) 10 (σ 6 7) g) 11 (σ 6 7) f) 12 (σ 6 7) l) 6 7 (σ 6 7 + 1) = τ at *
    refine m_paper (d := 17) hg (by rw [e4]; exact v1) (by rw [e2]; exact p2) (by rw [e2]; exact Zs1 (by omega)) (fun c' => ?_) (fun c' => absurd (by rw [e2, e4]; omega) c')
    rw [e4]
    clear e4 e2 c'
    subst hτ
    refine ⟨rfl, GR.wr (GR.wrk (GR.wrk (GR.wrk (GR.wrk (GR.wrk hg (by decide)) (by decide)) (by decide)) (by decide)) (by decide)) (by decide), fun j => ?_, (hI.w.fr (fun c j q => by clear hI; simp (disch := omega) only [wr_ne, wr_j]) (fun c j q => by clear hI; simp (disch := omega) only [wr_ne, wr_j])), (hI.p.fr (fun c j q => by clear hI; simp (disch := omega) only [wr_ne, wr_j]) (fun c j q => by clear hI; simp (disch := omega) only [wr_ne, wr_j])), ⟨?_, ⟨?_, ?_, ?_⟩, ?_, ?_, ?_, ?_, ?_, ?_⟩, (hI.h.fr (fun c j q => by clear hI; simp (disch := omega) only [wr_ne, wr_j]) (fun c j q => by clear hI; simp (disch := omega) only [wr_ne, wr_j])), (hI.l.fr (fun c j q => by clear hI; simp (disch := omega) only [wr_ne, wr_j]) (fun c j q => by clear hI; simp (disch := omega) only [wr_ne, wr_j])), (hI.t.fr (fun c j q => by clear hI; simp (disch := omega) only [wr_ne, wr_j]) (fun c j q => by clear hI; simp (disch := omega) only [wr_ne, wr_j])), (hI.f.fr (fun c j q => by clear hI; simp (disch := omega) only [wr_ne, wr_j]) (fun c j q => by clear hI; simp (disch := omega) only [wr_ne, wr_j])), (hI.q.fr (fun c j q => by clear hI; simp (disch := omega) only [wr_ne, wr_j]) (fun c j q => by clear hI; simp (disch := omega) only [wr_ne, wr_j]))⟩
    · simp (disch := decide) only [wr_ne]; exact hI.s j
    · simp (disch := decide) only [wr_ne, wr_same]
    · simp (disch := decide) only [wr_ne, wr_same]; omega
    · intro i h0 h1
      simp (disch := decide) only [wr_ne, wr_same] at h1
      simp (disch := decide) only [wr_ne, wr_c]
      by_cases e : i = σ 6 7
      · rw [if_pos e, if_pos e]; omega
      · rw [if_neg e, if_neg e]; exact v2 i h0 (by omega)
    · intro x h0 h1
      simp (disch := decide) only [wr_ne]; exact v3 x h0 h1
    · intro j; simp (disch := decide) only [wr_ne]; exact a7 j
    · intro j; simp (disch := decide) only [wr_ne, wr_c, a8]
    · intro j; simp (disch := decide) only [wr_ne, wr_c, a9]
    · intro j; simp (disch := decide) only [wr_ne, wr_c, a10]
    · intro j; simp (disch := decide) only [wr_ne, wr_c, a11]
    · intro j; simp (disch := decide) only [wr_ne, wr_c, a12]
  · exact m_paper (d := 17) hI.g (by rw [← a1]; exact v1) (by rw [← p1]; exact p2) (Zs1 (by omega)) (fun c' => absurd (by omega) c) (fun _ => ⟨rfl, hI⟩)
theorem o_withdraw {X : Int → Int} {p l : Int} : OP X 90 129 0 [(0, p), (0, l)] := fun σ n hI => by
  obtain ⟨a1, a2, a7, a8, a9, a10, a11, a12⟩ := hI.a
  obtain ⟨v1, v2, v3⟩ := a2
  refine s_withdraw (d := 17) hI.g v1 (fun c => ⟨_, rfl, fun j => ?_, ?_⟩) (fun c => ⟨_, rfl, hI.s, ?_⟩)
  · simp (disch := decide) only [wr_ne]; exact hI.s j
  · have hz6 : Zsub (σ 6 7) 1 = σ 6 7 - 1 := Zs1 (by omega)
    generalize hx : (if l < σ 12 p then l else σ 12 p) = x
    have e4 : wrM σ 12 p x 69 4 = σ 6 7 := by simp (disch := decide) only [wr_ne]; exact a1.symm
    have hg : GR (wrM σ 12 p x) := GR.wrk hI.g (by decide)
    have e7 : (if l < wrM σ 12 p x 77 p then l else wrM σ 12 p x 77 p) = x := by rw [wr_ne (by decide), ← a12]; exact hx
    generalize hτ : wrM σ 12 p x = τ at *
    refine m_withdraw (d := 17) hg (by rw [e4]; exact v1) (by rw [e4]; exact hz6) (fun c' => ?_) (fun c' => absurd (by rw [e4]; exact c) c')
    rw [e7]
    clear e4 e7 c' hx hz6
    subst hτ
    refine ⟨rfl, (GR.wrk (GR.wrk hI.g (by decide)) (by decide)), fun j => ?_, (hI.w.fr (fun c j q => by clear hI; simp (disch := omega) only [wr_ne, wr_j]) (fun c j q => by clear hI; simp (disch := omega) only [wr_ne, wr_j])), (hI.p.fr (fun c j q => by clear hI; simp (disch := omega) only [wr_ne, wr_j]) (fun c j q => by clear hI; simp (disch := omega) only [wr_ne, wr_j])), ⟨?_, ⟨?_, ?_, ?_⟩, ?_, ?_, ?_, ?_, ?_, ?_⟩, (hI.h.fr (fun c j q => by clear hI; simp (disch := omega) only [wr_ne, wr_j]) (fun c j q => by clear hI; simp (disch := omega) only [wr_ne, wr_j])), (hI.l.fr (fun c j q => by clear hI; simp (disch := omega) only [wr_ne, wr_j]) (fun c j q => by clear hI; simp (disch := omega) only [wr_ne, wr_j])), (hI.t.fr (fun c j q => by clear hI; simp (disch := omega) only [wr_ne, wr_j]) (fun c j q => by clear hI; simp (disch := omega) only [wr_ne, wr_j])), (hI.f.fr (fun c j q => by clear hI; simp (disch := omega) only [wr_ne, wr_j]) (fun c j q => by clear hI; simp (disch := omega) only [wr_ne, wr_j])), (hI.q.fr (fun c j q => by clear hI; simp (disch := omega) only [wr_ne, wr_j]) (fun c j q => by clear hI; simp (disch := omega) only [wr_ne, wr_j]))⟩
    · simp (disch := decide) only [wr_ne]; exact hI.s j
    · simp (disch := decide) only [wr_ne]; exact a1
    · simp (disch := decide) only [wr_ne]; exact v1
    · simp (disch := decide) only [wr_ne]; exact v2
    · intro x h0 h1
      simp (disch := decide) only [wr_ne]; exact v3 x h0 h1
    · simp (disch := decide) only [wr_ne]; exact a7
    · simp (disch := decide) only [wr_ne]; exact a8
    · simp (disch := decide) only [wr_ne]; exact a9
    · simp (disch := decide) only [wr_ne]; exact a10
    · simp (disch := decide) only [wr_ne]; exact a11
    · intro j; simp (disch := decide) only [wr_ne, wr_c, a12]
  · exact m_withdraw (d := 17) hI.g (by rw [← a1]; exact v1) (Zs1 (by omega)) (fun c' => absurd (by rw [a1]; exact c') c) (fun _ => ⟨rfl, hI⟩)
theorem o_bar {X : Int → Int} {p w b : Int} (hb : b = 0 ∨ b = 1) : OP X 92 132 0 [(0, p), (0, w), (0, b)] := fun σ n hI => by
  obtain ⟨p1, p2, p3, p4, p5, p6⟩ := hI.p
  have e1 : 20 * p + w = p * 20 + w := by omega
  refine s_bar (d := 16) hI.g hb (fun c => ⟨_, rfl, fun j => ?_, ?_⟩) (fun c => ⟨_, rfl, hI.s, ?_⟩)
  · simp (disch := decide) only [wr_ne]; exact hI.s j
  · have e2 : wrM σ 5 (p * 20 + w) b 69 2 = σ 3 2 := by simp (disch := decide) only [wr_ne]; exact p1.symm
    have e5 : (if wrM σ 5 (p * 20 + w) b 78 (20 * p + w) = b then (0 : Int) else 1) = 1 := by rw [e1, wr_ne (by decide), ← p5, if_neg c.2]
    have hg : GR (wrM σ 5 (p * 20 + w) b) := GR.wrk hI.g (by decide)
    generalize hτ : wrM σ 5 (p * 20 + w) b = τ at *
    refine m_bar (d := 17) hg hb (by rw [e2]; exact p2) (by rw [e2]; exact Zs1 (by omega)) (fun c' v hv => ?_) (fun c' => absurd (by rw [e2]; omega) c')
    rw [hv, e5, e1]
    clear e2 e5 c' hv
    subst hτ
    refine ⟨rfl, (GR.wrk (GR.wrk hI.g (by decide)) (by decide)), fun j => ?_, (hI.w.fr (fun c j q => by clear hI; simp (disch := omega) only [wr_ne, wr_j]) (fun c j q => by clear hI; simp (disch := omega) only [wr_ne, wr_j])), ⟨?_, ?_, ?_, ?_, ?_, ?_⟩, (hI.a.fr (fun c j q => by clear hI; simp (disch := omega) only [wr_ne, wr_j]) (fun c j q => by clear hI; simp (disch := omega) only [wr_ne, wr_j])), (hI.h.fr (fun c j q => by clear hI; simp (disch := omega) only [wr_ne, wr_j]) (fun c j q => by clear hI; simp (disch := omega) only [wr_ne, wr_j])), (hI.l.fr (fun c j q => by clear hI; simp (disch := omega) only [wr_ne, wr_j]) (fun c j q => by clear hI; simp (disch := omega) only [wr_ne, wr_j])), (hI.t.fr (fun c j q => by clear hI; simp (disch := omega) only [wr_ne, wr_j]) (fun c j q => by clear hI; simp (disch := omega) only [wr_ne, wr_j])), (hI.f.fr (fun c j q => by clear hI; simp (disch := omega) only [wr_ne, wr_j]) (fun c j q => by clear hI; simp (disch := omega) only [wr_ne, wr_j])), (hI.q.fr (fun c j q => by clear hI; simp (disch := omega) only [wr_ne, wr_j]) (fun c j q => by clear hI; simp (disch := omega) only [wr_ne, wr_j]))⟩
    · simp (disch := decide) only [wr_ne]; exact hI.s j
    · simp (disch := decide) only [wr_ne]; exact p1
    · simp (disch := decide) only [wr_ne]; exact p2
    · simp (disch := decide) only [wr_ne]; exact p3
    · simp (disch := decide) only [wr_ne]; exact p4
    · intro j; simp (disch := decide) only [wr_ne, wr_c, p5]
    · intro j
      simp (disch := decide) only [wr_ne, wr_c]
      by_cases e : j = p * 20 + w
      · rw [if_pos e]; exact hb
      · rw [if_neg e]; exact p6 j
  · refine m_bar (d := 17) hI.g hb (by rw [← p1]; exact p2) (Zs1 (by omega)) (fun c' v hv => ?_) (fun _ => ⟨rfl, hI⟩)
    have e5 : σ 5 (p * 20 + w) = b := Classical.byContradiction fun z => c ⟨by omega, z⟩
    rw [e1, ← p5, if_pos e5] at hv
    rw [hv, e1]
    have ew : ∀ j, wrM σ 78 (p * 20 + w) b 78 j = σ 78 j := fun j => by
      rw [wr_c]
      by_cases e : j = p * 20 + w
      · rw [if_pos e, e, ← p5, e5]
      · rw [if_neg e]
    refine ⟨rfl, (GR.wrk hI.g (by decide)), fun j => ?_, (hI.w.fr (fun c j q => by clear hI; simp (disch := omega) only [wr_ne, wr_j]) (fun c j q => by clear hI; simp (disch := omega) only [wr_ne, wr_j])), ⟨?_, ?_, ?_, ?_, ?_, ?_⟩, (hI.a.fr (fun c j q => by clear hI; simp (disch := omega) only [wr_ne, wr_j]) (fun c j q => by clear hI; simp (disch := omega) only [wr_ne, wr_j])), (hI.h.fr (fun c j q => by clear hI; simp (disch := omega) only [wr_ne, wr_j]) (fun c j q => by clear hI; simp (disch := omega) only [wr_ne, wr_j])), (hI.l.fr (fun c j q => by clear hI; simp (disch := omega) only [wr_ne, wr_j]) (fun c j q => by clear hI; simp (disch := omega) only [wr_ne, wr_j])), (hI.t.fr (fun c j q => by clear hI; simp (disch := omega) only [wr_ne, wr_j]) (fun c j q => by clear hI; simp (disch := omega) only [wr_ne, wr_j])), (hI.f.fr (fun c j q => by clear hI; simp (disch := omega) only [wr_ne, wr_j]) (fun c j q => by clear hI; simp (disch := omega) only [wr_ne, wr_j])), (hI.q.fr (fun c j q => by clear hI; simp (disch := omega) only [wr_ne, wr_j]) (fun c j q => by clear hI; simp (disch := omega) only [wr_ne, wr_j]))⟩
    · simp (disch := decide) only [wr_ne]; exact hI.s j
    · simp (disch := decide) only [wr_ne]; exact p1
    · simp (disch := decide) only [wr_ne]; exact p2
    · simp (disch := decide) only [wr_ne]; exact p3
    · simp (disch := decide) only [wr_ne]; exact p4
    · intro j; rw [ew, wr_ne (by decide)]; exact p5 j
    · simp (disch := decide) only [wr_ne]; exact p6
theorem o_ask {X : Int → Int} {h p y : Int} : OP X 109 173 0 [(0, h), (0, p), (0, y)] := fun σ n hI => by
  obtain ⟨p1, p2, p3, p4, p5, p6⟩ := hI.p
  obtain ⟨h1, h2, h3, h4, h5⟩ := hI.h
  obtain ⟨q1, q2, q53, q54, q55, q58, q56, q57, q6, q7⟩ := hI.q
  have hb := h1.2.1
  have hb0 := h1.1
  refine s_ask (d := 17) hI.g h1 q2 (Zs1 (by omega)) (fun c => ⟨_, rfl, fun j => ?_, ?_⟩) (fun c => ⟨_, rfl, hI.s, ?_⟩)
  · simp (disch := decide) only [wr_ne]; exact hI.s j
  · have hg : GR (wrM (wrM (wrM (wrM (wrM σ 53 (σ 52 6) h) 54 (σ 52 6) p) 55 (σ 52 6) y) 58 (σ 52 6) (-1)) 52 6 (σ 52 6 + 1)) := GR.wr (GR.wrk (GR.wrk (GR.wrk (GR.wrk hI.g (by decide)) (by decide)) (by decide)) (by decide)) (by decide)
    have e55 : wrM (wrM (wrM (wrM (wrM σ 53 (σ 52 6) h) 54 (σ 52 6) p) 55 (σ 52 6) y) 58 (σ 52 6) (-1)) 52 6 (σ 52 6 + 1) 69 55 = σ 52 6 := by simp (disch := decide) only [wr_ne]; exact q1.symm
    have e2 : wrM (wrM (wrM (wrM (wrM σ 53 (σ 52 6) h) 54 (σ 52 6) p) 55 (σ 52 6) y) 58 (σ 52 6) (-1)) 52 6 (σ 52 6 + 1) 69 2 = σ 3 2 := by simp (disch := decide) only [wr_ne]; exact p1.symm
    have e12 : wrM (wrM (wrM (wrM (wrM σ 53 (σ 52 6) h) 54 (σ 52 6) p) 55 (σ 52 6) y) 58 (σ 52 6) (-1)) 52 6 (σ 52 6 + 1) 69 12 = σ 14 1 := by simp (disch := decide) only [wr_ne]; exact h2.symm
    have e110 : ∀ j, wrM (wrM (wrM (wrM (wrM σ 53 (σ 52 6) h) 54 (σ 52 6) p) 55 (σ 52 6) y) 58 (σ 52 6) (-1)) 52 6 (σ 52 6 + 1) 110 j = σ 55 j := fun j => by simp (disch := decide) only [wr_ne]; exact (q55 j).symm
    generalize hτ : wrM (wrM (wrM (wrM (wrM σ 53 (σ 52 6) h) 54 (σ 52 6) p) 55 (σ 52 6) y) 58 (σ 52 6) (-1)) 52 6 (σ 52 6 + 1) = τ at *
    refine m_ask (d := 17) hg (by rw [e55]; exact q2) (by rw [e55]; exact Zs1 (by omega)) (by rw [e2]; exact Zs1 (by omega)) (by rw [e12]; exact Zs1 (by omega)) (fun c' => ?_) (fun c' => absurd (by rw [e2, e12, e55, e110]; omega) c')
    rw [e55]
    clear e55 e2 e12 e110 c'
    subst hτ
    refine ⟨rfl, GR.wr (GR.wrk (GR.wrk (GR.wrk (GR.wrk hg (by decide)) (by decide)) (by decide)) (by decide)) (by decide), fun j => ?_, (hI.w.fr (fun c j q => by clear hI; simp (disch := omega) only [wr_ne, wr_j]) (fun c j q => by clear hI; simp (disch := omega) only [wr_ne, wr_j])), (hI.p.fr (fun c j q => by clear hI; simp (disch := omega) only [wr_ne, wr_j]) (fun c j q => by clear hI; simp (disch := omega) only [wr_ne, wr_j])), (hI.a.fr (fun c j q => by clear hI; simp (disch := omega) only [wr_ne, wr_j]) (fun c j q => by clear hI; simp (disch := omega) only [wr_ne, wr_j])), (hI.h.fr (fun c j q => by clear hI; simp (disch := omega) only [wr_ne, wr_j]) (fun c j q => by clear hI; simp (disch := omega) only [wr_ne, wr_j])), (hI.l.fr (fun c j q => by clear hI; simp (disch := omega) only [wr_ne, wr_j]) (fun c j q => by clear hI; simp (disch := omega) only [wr_ne, wr_j])), (hI.t.fr (fun c j q => by clear hI; simp (disch := omega) only [wr_ne, wr_j]) (fun c j q => by clear hI; simp (disch := omega) only [wr_ne, wr_j])), (hI.f.fr (fun c j q => by clear hI; simp (disch := omega) only [wr_ne, wr_j]) (fun c j q => by clear hI; simp (disch := omega) only [wr_ne, wr_j])), ⟨?_, ?_, ?_, ?_, ?_, ?_, ?_, ?_, ?_, ?_⟩⟩
    · simp (disch := decide) only [wr_ne]; exact hI.s j
    · simp (disch := decide) only [wr_ne, wr_same]
    · simp (disch := decide) only [wr_ne, wr_same]; omega
    · intro j; simp (disch := decide) only [wr_ne, wr_c, q53]
    · intro j; simp (disch := decide) only [wr_ne, wr_c, q54]
    · intro j; simp (disch := decide) only [wr_ne, wr_c, q55]
    · intro j; simp (disch := decide) only [wr_ne, wr_c, q58]
    · intro j; simp (disch := decide) only [wr_ne, wr_c, q56]
    · intro j; simp (disch := decide) only [wr_ne, wr_c, q57]
    · intro j; simp (disch := decide) only [wr_ne]; exact q6 j
    · intro k k0 k1
      simp (disch := decide) only [wr_ne, wr_same] at k1
      simp (disch := decide) only [wr_ne, wr_c]
      by_cases e : k = σ 52 6
      · rw [if_pos e, if_pos e]; omega
      · rw [if_neg e, if_neg e]; exact q7 k k0 (by omega)
  · exact m_ask (d := 17) hI.g (by rw [← q1]; exact q2) (Zs1 (by omega)) (Zs1 (by omega)) (Zs1 (by omega)) (fun c' => absurd (by rw [q55, q1]; omega) c) (fun _ => ⟨rfl, hI⟩)
theorem o_answer {X : Int → Int} {k y b w : Int} (hb : b = 0 ∨ b = 1) : OP X 110 174 0 [(0, k), (0, y), (0, b), (0, w)] := fun σ n hI => by
  obtain ⟨q1, q2, q53, q54, q55, q58, q56, q57, q6, q7⟩ := hI.q
  refine s_answer (d := 17) hI.g hb (fun c => ⟨_, rfl, fun j => ?_, ?_⟩) (fun c => ⟨_, rfl, hI.s, ?_⟩)
  · simp (disch := decide) only [wr_ne]; exact hI.s j
  · have hg : GR (wrM (wrM (wrM σ 58 k y) 56 k b) 57 k w) := (GR.wrk (GR.wrk (GR.wrk hI.g (by decide)) (by decide)) (by decide))
    have e55 : wrM (wrM (wrM σ 58 k y) 56 k b) 57 k w 69 55 = σ 52 6 := by simp (disch := decide) only [wr_ne]; exact q1.symm
    have e110 : wrM (wrM (wrM σ 58 k y) 56 k b) 57 k w 110 k = σ 55 k := by simp (disch := decide) only [wr_ne]; exact (q55 k).symm
    have e111 : wrM (wrM (wrM σ 58 k y) 56 k b) 57 k w 111 k = σ 58 k := by simp (disch := decide) only [wr_ne]; exact (q58 k).symm
    generalize hτ : wrM (wrM (wrM σ 58 k y) 56 k b) 57 k w = τ at *
    refine m_answer (d := 17) hg hb (by rw [e55]; exact q2) (by rw [e55]; exact Zs1 (by omega)) (fun c' => ?_) (fun c' => absurd (by rw [e55, e110, e111]; omega) c')
    clear e55 e110 e111 c'
    subst hτ
    refine ⟨rfl, (GR.wrk (GR.wrk (GR.wrk hg (by decide)) (by decide)) (by decide)), fun j => ?_, (hI.w.fr (fun c j q => by clear hI; simp (disch := omega) only [wr_ne, wr_j]) (fun c j q => by clear hI; simp (disch := omega) only [wr_ne, wr_j])), (hI.p.fr (fun c j q => by clear hI; simp (disch := omega) only [wr_ne, wr_j]) (fun c j q => by clear hI; simp (disch := omega) only [wr_ne, wr_j])), (hI.a.fr (fun c j q => by clear hI; simp (disch := omega) only [wr_ne, wr_j]) (fun c j q => by clear hI; simp (disch := omega) only [wr_ne, wr_j])), (hI.h.fr (fun c j q => by clear hI; simp (disch := omega) only [wr_ne, wr_j]) (fun c j q => by clear hI; simp (disch := omega) only [wr_ne, wr_j])), (hI.l.fr (fun c j q => by clear hI; simp (disch := omega) only [wr_ne, wr_j]) (fun c j q => by clear hI; simp (disch := omega) only [wr_ne, wr_j])), (hI.t.fr (fun c j q => by clear hI; simp (disch := omega) only [wr_ne, wr_j]) (fun c j q => by clear hI; simp (disch := omega) only [wr_ne, wr_j])), (hI.f.fr (fun c j q => by clear hI; simp (disch := omega) only [wr_ne, wr_j]) (fun c j q => by clear hI; simp (disch := omega) only [wr_ne, wr_j])), ⟨?_, ?_, ?_, ?_, ?_, ?_, ?_, ?_, ?_, ?_⟩⟩
    · simp (disch := decide) only [wr_ne]; exact hI.s j
    · simp (disch := decide) only [wr_ne]; exact q1
    · simp (disch := decide) only [wr_ne]; exact q2
    · simp (disch := decide) only [wr_ne]; exact q53
    · simp (disch := decide) only [wr_ne]; exact q54
    · simp (disch := decide) only [wr_ne]; exact q55
    · intro j; simp (disch := decide) only [wr_ne, wr_c, q58]
    · intro j; simp (disch := decide) only [wr_ne, wr_c, q56]
    · intro j; simp (disch := decide) only [wr_ne, wr_c, q57]
    · intro j; simp (disch := decide) only [wr_ne, wr_c]
      by_cases e : j = k
      · rw [if_pos e]; exact hb
      · rw [if_neg e]; exact q6 j
    · intro i k0 k1
      simp (disch := decide) only [wr_ne] at k1
      simp (disch := decide) only [wr_ne, wr_c]
      by_cases e : i = k
      · rw [if_pos e, e]; have := q7 k (by omega) (by omega); omega
      · rw [if_neg e]; exact q7 i k0 k1
  · refine m_answer (d := 17) hI.g hb (by rw [← q1]; exact q2) (Zs1 (by omega)) (fun c' => absurd ?_ c) (fun _ => ⟨rfl, hI⟩)
    rw [← q1, ← q55, ← q58] at c'
    have := q7 k c'.1.1 c'.1.2
    omega
theorem o_known {X : Int → Int} {k y w : Int} : OP X 111 175 0 [(0, k), (0, y), (0, w)] := fun σ n hI => by
  obtain ⟨q1, q2, q53, q54, q55, q58, q56, q57, q6, q7⟩ := hI.q
  have hz : Zsub (σ 69 55) 1 = σ 69 55 - 1 := Zs1 (by omega)
  refine s_known (d := 17) hI.g q2 (fun v hv => ⟨v, rfl, hI.s, ?_⟩)
  refine m_known (d := 17) hI.g (by rw [← q1]; exact q2) (fun j => by rw [← q56]; exact q6 j) hz (fun v' hv' => ⟨?_, hI⟩)
  rw [hv, hv', ← q1, ← q53, ← q54, ← q55, ← q56, ← q57, ← q58]
  clear hv hv' v v' hz
  by_cases c : (0 ≤ y ∧ y ≤ 999) ∧ (0 ≤ k ∧ k < σ 52 6 ∧ σ 55 k ≤ y)
  · have q := q7 k c.2.1 c.2.2.1
    have e : (¬ σ 58 k = -1 ∧ σ 58 k ≤ y) ↔ (0 ≤ σ 58 k ∧ σ 58 k ≤ y) := by omega
    simp only [e]
  · rw [if_neg c, if_neg c]
theorem o_refusals {X : Int → Int} {h y : Int} : OP X 112 176 0 [(0, h), (0, y)] := fun σ n hI => by
  obtain ⟨q1, q2, q53, q54, q55, q58, q56, q57, q6, q7⟩ := hI.q
  obtain ⟨h1, h2, h3, h4, h5⟩ := hI.h
  have hb := h1.2.1
  have hb0 := h1.1
  have hz : Zsub (σ 69 12) 1 = σ 69 12 - 1 := Zs1 (by omega)
  refine s_refusals (d := 16) hI.g h1 q2 (fun v hv => ⟨v, rfl, hI.s, ?_⟩)
  refine m_refusals (d := 17) hI.g (by rw [← q1]; exact q2) hz (fun v' hv' => ⟨?_, hI⟩)
  rw [hv, hv', ← q1, ← h2]
  clear hv hv' v v' hz
  have es : sumN (fun i => if (h = -1 ∨ σ 53 i = h) ∧ (σ 55 i ≤ y ∧ ¬ σ 58 i = -1 ∧ σ 58 i ≤ y) ∧ σ 56 i = 0 then 1 else 0) (σ 52 6).toNat = sumN (fun i => if (h = -1 ∨ σ 108 i = h) ∧ (0 ≤ σ 111 i ∧ σ 111 i ≤ y) ∧ σ 112 i = 0 then 1 else 0) (σ 52 6).toNat := sumN_congr (fun i hi => by
    have q := q7 (i : Int) (by omega) (by omega)
    show (if (h = -1 ∨ σ 53 (i : Int) = h) ∧ (σ 55 (i : Int) ≤ y ∧ ¬ σ 58 (i : Int) = -1 ∧ σ 58 (i : Int) ≤ y) ∧ σ 56 (i : Int) = 0 then (1 : Int) else 0) = if (h = -1 ∨ σ 108 (i : Int) = h) ∧ (0 ≤ σ 111 (i : Int) ∧ σ 111 (i : Int) ≤ y) ∧ σ 112 (i : Int) = 0 then 1 else 0
    rw [← q53, ← q56, ← q58]
    by_cases e : (h = -1 ∨ σ 53 (i : Int) = h) ∧ (σ 55 (i : Int) ≤ y ∧ ¬ σ 58 (i : Int) = -1 ∧ σ 58 (i : Int) ≤ y) ∧ σ 56 (i : Int) = 0
    · rw [if_pos e, if_pos (by omega)]
    · rw [if_neg e, if_neg (by omega)])
  rw [es]
