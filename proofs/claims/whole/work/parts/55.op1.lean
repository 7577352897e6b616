/-! the operations that need no glue -/
set_option maxHeartbeats 2000000 in
theorem wr_c {σ : Mem} {c i v j : Int} : wrM σ c i v c j = if j = i then v else σ c j := by
  rw [wr_if]
  by_cases e : j = i
  · rw [if_pos ⟨rfl, e⟩, if_pos e]
  · rw [if_neg (fun z => e z.2), if_neg e]
theorem Zs1 {x : Int} (h : -1000000 ≤ x ∧ x ≤ 1000000) : Zsub x 1 = x - 1 := Zsub_eq (by omega) (by omega)
theorem o_way {X : Int → Int} {a b m : Int} : OP X 86 123 0 [(0, a), (0, b), (0, m)] := fun σ n hI => by
  refine s_way (d := 16) hI.g (fun c => ⟨_, rfl, fun j => ?_, ?_⟩) (fun c => ⟨_, rfl, hI.s, ?_⟩)
  · rw [wr_ne (by decide), wr_ne (by decide)]; exact hI.s j
  · obtain ⟨w1, w2, w3, w4, w5⟩ := hI.w
    have e1 : 6 * a + b = a * 6 + b := by omega
    have e2 : 6 * b + a = b * 6 + a := by omega
    refine m_way (d := 18) (GR.wrk (GR.wrk hI.g (by decide)) (by decide)) (fun _ => ?_) (fun c' => absurd c c')
    rw [e1, e2]
    refine ⟨?_, (GR.wrk (GR.wrk (GR.wrk (GR.wrk hI.g (by decide)) (by decide)) (by decide)) (by decide)), fun j => ?_, ⟨fun j => ?_, fun j h0 h1 => ?_, fun t h0 h1 => ?_, ?_, ?_⟩, (hI.p.fr (fun c j _ => by simp (disch := omega) only [wr_ne, wr_j]) (fun c j _ => by simp (disch := omega) only [wr_ne, wr_j])), (hI.a.fr (fun c j _ => by simp (disch := omega) only [wr_ne, wr_j]) (fun c j _ => by simp (disch := omega) only [wr_ne, wr_j])), (hI.h.fr (fun c j _ => by simp (disch := omega) only [wr_ne, wr_j]) (fun c j _ => by simp (disch := omega) only [wr_ne, wr_j])), (hI.l.fr (fun c j _ => by simp (disch := omega) only [wr_ne, wr_j]) (fun c j _ => by simp (disch := omega) only [wr_ne, wr_j])), (hI.t.fr (fun c j _ => by simp (disch := omega) only [wr_ne, wr_j]) (fun c j _ => by simp (disch := omega) only [wr_ne, wr_j])), (hI.f.fr (fun c j _ => by simp (disch := omega) only [wr_ne, wr_j]) (fun c j _ => by simp (disch := omega) only [wr_ne, wr_j])), (hI.q.fr (fun c j _ => by simp (disch := omega) only [wr_ne, wr_j]) (fun c j _ => by simp (disch := omega) only [wr_ne, wr_j]))⟩
    · rw [wr_ne (by decide), wr_ne (by decide), w1]
    · rw [wr_ne (by decide), wr_ne (by decide), wr_ne (by decide), wr_ne (by decide)]; exact hI.s j
    · have q := wr_eq2 (i := b * 6 + a) (v := m) (wr_eq2 (i := a * 6 + b) (v := m) w1) j
      rw [wr_ne (by decide), wr_ne (by decide), q]
      simp (disch := decide) only [wr_if, if_neg]
      simp
    · rw [wr_ne (by decide), wr_ne (by decide), wr_if, wr_if]
      have := w2 j h0 h1
      split
      · omega
      · split
        · omega
        · exact this
    · rw [wr_ne (by decide), wr_ne (by decide), wr_nej (by omega), wr_nej (by omega)]; exact w3 t h0 h1
    · simp (disch := omega) only [wr_ne]; exact w4
    · simp (disch := omega) only [wr_ne]; exact w5
  · exact m_way (d := 18) hI.g (fun c' => absurd c' c) (fun _ => ⟨rfl, hI⟩)
theorem o_dialect {X : Int → Int} {t o : Int} (ht : -2147483648 ≤ t ∧ t ≤ 2147483647) : OP X 87 124 0 [(0, t), (0, o)] := fun σ n hI => by
  refine s_dialect (d := 18) hI.g ht (fun c => ⟨_, rfl, fun j => ?_, ?_⟩) (fun c => ⟨_, rfl, hI.s, ?_⟩)
  · rw [wr_ne (by decide)]; exact hI.s j
  · obtain ⟨a1, a2, a3, a4⟩ := hI.a
    refine m_dialect (d := 18) (GR.wrk hI.g (by decide)) ht (fun _ => ?_) (fun c' => absurd c c')
    refine ⟨rfl, (GR.wrk (GR.wrk hI.g (by decide)) (by decide)), fun j => ?_, (hI.w.fr (fun c j _ => by simp (disch := omega) only [wr_ne, wr_j]) (fun c j _ => by simp (disch := omega) only [wr_ne, wr_j])), (hI.p.fr (fun c j _ => by simp (disch := omega) only [wr_ne, wr_j]) (fun c j _ => by simp (disch := omega) only [wr_ne, wr_j])), ⟨?_, ⟨?_, ?_, ?_⟩, ?_, ?_⟩, (hI.h.fr (fun c j _ => by simp (disch := omega) only [wr_ne, wr_j]) (fun c j _ => by simp (disch := omega) only [wr_ne, wr_j])), (hI.l.fr (fun c j _ => by simp (disch := omega) only [wr_ne, wr_j]) (fun c j _ => by simp (disch := omega) only [wr_ne, wr_j])), (hI.t.fr (fun c j _ => by simp (disch := omega) only [wr_ne, wr_j]) (fun c j _ => by simp (disch := omega) only [wr_ne, wr_j])), (hI.f.fr (fun c j _ => by simp (disch := omega) only [wr_ne, wr_j]) (fun c j _ => by simp (disch := omega) only [wr_ne, wr_j])), (hI.q.fr (fun c j _ => by simp (disch := omega) only [wr_ne, wr_j]) (fun c j _ => by simp (disch := omega) only [wr_ne, wr_j]))⟩
    · simp (disch := omega) only [wr_ne]; exact hI.s j
    · simp (disch := omega) only [wr_ne]; exact a1
    · simp (disch := omega) only [wr_ne]; exact a2.1
    · simp (disch := omega) only [wr_ne]; exact a2.2.1
    · intro x h0 h1
      rw [wr_ne (by decide), wr_if]
      by_cases e : x = t
      · rw [if_pos ⟨rfl, e⟩]; omega
      · rw [if_neg (fun z => e z.2)]; exact a2.2.2 x h0 h1
    · intro j
      have q := wr_eq2 (i := t) (v := o) a3 j
      rw [wr_ne (by decide), q, wr_if, wr_if, wr_ne (by decide)]
    · simp (disch := omega) only [wr_ne]; exact a4
  · exact m_dialect (d := 18) hI.g ht (fun c' => absurd c' c) (fun _ => ⟨rfl, hI⟩)
theorem o_rest {X : Int → Int} {m : Int} : OP X 93 133 0 [(0, m)] := fun σ n hI => by
  refine s_rest (d := 18) hI.g (fun c => ⟨_, rfl, fun j => ?_, ?_⟩) (fun c => ⟨_, rfl, hI.s, ?_⟩)
  · rw [wr_ne (by decide)]; exact hI.s j
  · obtain ⟨w1, w2, w3, w4, w5⟩ := hI.w
    refine m_rest (d := 18) (fun _ => ?_) (fun c' => absurd c c')
    refine ⟨?_, (GR.wr (GR.wr hI.g (by decide)) (by decide)), fun j => ?_, ⟨?_, ?_, ?_, ?_, ?_⟩, (hI.p.fr (fun c j _ => by simp (disch := omega) only [wr_ne, wr_j]) (fun c j _ => by simp (disch := omega) only [wr_ne, wr_j])), (hI.a.fr (fun c j _ => by simp (disch := omega) only [wr_ne, wr_j]) (fun c j _ => by simp (disch := omega) only [wr_ne, wr_j])), (hI.h.fr (fun c j _ => by simp (disch := omega) only [wr_ne, wr_j]) (fun c j _ => by simp (disch := omega) only [wr_ne, wr_j])), (hI.l.fr (fun c j _ => by simp (disch := omega) only [wr_ne, wr_j]) (fun c j _ => by simp (disch := omega) only [wr_ne, wr_j])), (hI.t.fr (fun c j _ => by simp (disch := omega) only [wr_ne, wr_j]) (fun c j _ => by simp (disch := omega) only [wr_ne, wr_j])), (hI.f.fr (fun c j _ => by simp (disch := omega) only [wr_ne, wr_j]) (fun c j _ => by simp (disch := omega) only [wr_ne, wr_j])), (hI.q.fr (fun c j _ => by simp (disch := omega) only [wr_ne, wr_j]) (fun c j _ => by simp (disch := omega) only [wr_ne, wr_j]))⟩
    · simp (disch := omega) only [wr_ne]; rw [w4]
    · simp (disch := omega) only [wr_ne]; exact hI.s j
    · simp (disch := omega) only [wr_ne]; exact w1
    · intro j; simp (disch := omega) only [wr_ne]; exact w2 j
    · simp (disch := omega) only [wr_ne]; exact w3
    · rw [wr_ne (by decide), wr_same, wr_same]
    · rw [wr_ne (by decide), wr_same]; exact c
  · exact m_rest (d := 18) (fun c' => absurd c' c) (fun _ => ⟨rfl, hI⟩)
theorem o_person {X : Int → Int} {t : Int} : OP X 88 125 0 [(0, t)] := fun σ n hI => by
  obtain ⟨p1, p2, p3, p4, p5, p6⟩ := hI.p
  refine s_person (d := 17) hI.g p2 (fun c => ⟨_, rfl, fun j => ?_, ?_⟩) (fun c => ⟨_, rfl, hI.s, ?_⟩)
  · rw [wr_ne (by decide), wr_ne (by decide)]; exact hI.s j
  · have e : wrM (wrM σ 4 (σ 3 2) t) 3 2 (σ 3 2 + 1) 69 2 = σ 3 2 := by simp (disch := omega) only [wr_ne]; exact p1.symm
    refine m_person (d := 18) (GR.wr (GR.wrk hI.g (by decide)) (by decide)) (by rw [e]; exact p2) (fun _ => ?_) (fun c' => absurd c (by rw [e] at c'; exact c'))
    rw [e]
    refine ⟨rfl, (GR.wr (GR.wrk (GR.wr (GR.wrk hI.g (by decide)) (by decide)) (by decide)) (by decide)), fun j => ?_, (hI.w.fr (fun c j _ => by simp (disch := omega) only [wr_ne, wr_j]) (fun c j _ => by simp (disch := omega) only [wr_ne, wr_j])), ⟨?_, ?_, ?_, ?_, ?_, ?_⟩, (hI.a.fr (fun c j _ => by simp (disch := omega) only [wr_ne, wr_j]) (fun c j _ => by simp (disch := omega) only [wr_ne, wr_j])), (hI.h.fr (fun c j _ => by simp (disch := omega) only [wr_ne, wr_j]) (fun c j _ => by simp (disch := omega) only [wr_ne, wr_j])), (hI.l.fr (fun c j _ => by simp (disch := omega) only [wr_ne, wr_j]) (fun c j _ => by simp (disch := omega) only [wr_ne, wr_j])), (hI.t.fr (fun c j _ => by simp (disch := omega) only [wr_ne, wr_j]) (fun c j _ => by simp (disch := omega) only [wr_ne, wr_j])), (hI.f.fr (fun c j _ => by simp (disch := omega) only [wr_ne, wr_j]) (fun c j _ => by simp (disch := omega) only [wr_ne, wr_j])), (hI.q.fr (fun c j _ => by simp (disch := omega) only [wr_ne, wr_j]) (fun c j _ => by simp (disch := omega) only [wr_ne, wr_j]))⟩
    · simp (disch := omega) only [wr_ne]; exact hI.s j
    · rw [wr_ne (by decide), wr_ne (by decide), wr_same, wr_same]
    · rw [wr_ne (by decide), wr_ne (by decide), wr_same]; omega
    · intro j
      simp (disch := omega) only [wr_ne, wr_c, p3]
    · intro q h0 h1
      rw [wr_ne (by decide), wr_ne (by decide), wr_same] at h1
      rw [wr_ne (by decide), wr_ne (by decide), wr_ne (by decide), wr_if]
      split
      · omega
      · rename_i hc
        exact p4 q h0 (by omega)
    · simp (disch := omega) only [wr_ne]; exact p5
    · simp (disch := omega) only [wr_ne]; exact p6
  · exact m_person (d := 18) hI.g (by rw [← p1]; exact p2) (fun c' => absurd (by rw [p1]; exact c') c) (fun _ => ⟨rfl, hI⟩)
theorem o_end {X : Int → Int} {m : Int} : OP X 105 162 0 [(0, m)] := fun σ n hI => by
  obtain ⟨t1, t2, t3, t4⟩ := hI.t
  refine s_end (d := 18) hI.g (fun c => ⟨_, rfl, fun j => ?_, ?_⟩) (fun c => ⟨_, rfl, hI.s, ?_⟩)
  · rw [wr_ne (by decide)]; exact hI.s j
  · refine m_end (d := 19) (fun _ => ?_) (fun c' => absurd (by rw [wr_ne (by decide), ← t1]; exact c) c')
    refine ⟨rfl, (GR.wr (GR.wr hI.g (by decide)) (by decide)), fun j => ?_, (hI.w.fr (fun c j _ => by simp (disch := omega) only [wr_ne, wr_j]) (fun c j _ => by simp (disch := omega) only [wr_ne, wr_j])), (hI.p.fr (fun c j _ => by simp (disch := omega) only [wr_ne, wr_j]) (fun c j _ => by simp (disch := omega) only [wr_ne, wr_j])), (hI.a.fr (fun c j _ => by simp (disch := omega) only [wr_ne, wr_j]) (fun c j _ => by simp (disch := omega) only [wr_ne, wr_j])), (hI.h.fr (fun c j _ => by simp (disch := omega) only [wr_ne, wr_j]) (fun c j _ => by simp (disch := omega) only [wr_ne, wr_j])), (hI.l.fr (fun c j _ => by simp (disch := omega) only [wr_ne, wr_j]) (fun c j _ => by simp (disch := omega) only [wr_ne, wr_j])), ⟨?_, ⟨?_, ?_⟩, ?_, ?_⟩, (hI.f.fr (fun c j _ => by simp (disch := omega) only [wr_ne, wr_j]) (fun c j _ => by simp (disch := omega) only [wr_ne, wr_j])), (hI.q.fr (fun c j _ => by simp (disch := omega) only [wr_ne, wr_j]) (fun c j _ => by simp (disch := omega) only [wr_ne, wr_j]))⟩
    · simp (disch := omega) only [wr_ne]; exact hI.s j
    · rw [wr_ne (by decide), wr_same, wr_same]
    · rw [wr_ne (by decide), wr_same]; have := t2.1; omega
    · simp (disch := omega) only [wr_ne]; exact t2.2
    · simp (disch := omega) only [wr_ne]; exact t3
    · simp (disch := omega) only [wr_ne]; exact t4
  · exact m_end (d := 19) (fun c' => absurd (by rw [t1]; exact c') c) (fun _ => ⟨rfl, hI⟩)
theorem o_planned {X : Int → Int} {w : Int} : OP X 100 155 0 [(0, w)] := fun σ n hI => by
  obtain ⟨l1, l2, l3, l4, l5⟩ := hI.l
  refine s_planned (d := 19) hI.g (fun v hv => ⟨v, rfl, hI.s, ?_⟩)
  refine m_planned (d := 19) (fun v' hv' => ⟨?_, hI⟩)
  rw [hv, hv', l1, l2, l3, l4, l5]
theorem o_seat {X : Int → Int} {h w : Int} : OP X 101 156 0 [(0, h), (0, w)] := fun σ n hI => by
  obtain ⟨h1, h2, h3, h4, h5⟩ := hI.h
  have hb : 0 ≤ σ 69 12 ∧ σ 69 12 ≤ 24 := by rw [← h2]; exact ⟨h1.1, h1.2.1⟩
  refine s_seat (d := 18) hI.g h1 (fun c => ⟨_, rfl, hI.s, ?_⟩) (fun c => ⟨_, rfl, hI.s, ?_⟩)
  · refine m_seat (d := 17) hI.g (Zs1 (by omega)) hb (fun _ => ⟨?_, hI⟩) (fun c' => absurd (by rw [← h2]; exact c) c')
    have e := (h4 h c.1 c.2.1).2.2.2.1
    rw [e.1, e.2]
  · exact m_seat (d := 17) hI.g (Zs1 (by omega)) hb (fun c' => absurd (by rw [h2]; exact c') c) (fun _ => ⟨rfl, hI⟩)
theorem o_turn {X : Int → Int} {h m : Int} : OP X 102 157 0 [(0, h), (0, m)] := fun σ n hI => by
  obtain ⟨h1, h2, h3, h4, h5⟩ := hI.h
  have hb : 0 ≤ σ 69 12 ∧ σ 69 12 ≤ 24 := by rw [← h2]; exact ⟨h1.1, h1.2.1⟩
  refine s_turn (d := 18) hI.g h1 (fun c => Zs1 (by have := (h4 h c.1 c.2).1.2.1; omega)) (fun v hv => ⟨v, rfl, hI.s, ?_⟩)
  refine m_turn (d := 17) hI.g hb (Zs1 (by omega)) (fun c => Zs1 (by have := (h4 h c.1 (by omega)).1.2.1; have e := (h4 h c.1 (by omega)).2.1.2.2.2.1; omega)) (fun v' hv' => ⟨?_, hI⟩)
  rw [hv, hv', ← h2]
  by_cases c : 0 ≤ h ∧ h < σ 14 1
  · have e := h4 h c.1 c.2
    rw [e.2.1.2.2.2.1, e.2.2.2.1.1, e.2.2.2.1.2]
  · rw [if_neg (fun z => c z.1), if_neg (fun z => c z.1)]
theorem o_count {X : Int → Int} {w : Int} : OP X 113 177 0 [(0, w)] := fun σ n hI => by
  obtain ⟨h1, h2, h3, h4, h5⟩ := hI.h
  obtain ⟨fT, l, f2, f3, f4⟩ := hI.f
  have hb : 0 ≤ σ 69 12 ∧ σ 69 12 ≤ 24 := by rw [← h2]; exact ⟨h1.1, h1.2.1⟩
  refine s_count (d := 17) hI.g h1 rfl (by omega) (fun v hv => ⟨v, rfl, hI.s, ?_⟩)
  refine m_count (d := 19) hI.g hb (fun v' hv' => ⟨?_, hI⟩)
  have e : sumN (fun i => if ¬ σ (114 + i) 7 = 0 then 1 else 0) (σ 14 1).toNat = sumN (fun i => if 0 ≤ σ 86 i then 1 else 0) (σ 14 1).toNat := sumN_congr (fun i hi => by
    have q := (h4 i (by omega) (by omega)).2.2.1
    show (if ¬ σ (114 + (i : Int)) 7 = 0 then (1 : Int) else 0) = if 0 ≤ σ 86 (i : Int) then 1 else 0
    rcases q with q | q
    · rw [if_neg (by omega), if_neg (by omega)]
    · rw [if_pos (by omega), if_pos (by omega)])
  rw [hv, hv', e, hI.p.1, hI.a.1, h2, hI.q.1, hI.t.1, f2.1, f3.1, hI.w.2.2.2.1]
