/-! printed by wip/whole/blocks.py: rules of stretches of instructions, the objects' places put in (r_: of one place each; rK_: the Teams or FeeText at cell K) -/
-- 48 HearingDesk$Planner.isBetter(III)Z loops at []
set_option maxRecDepth 20000 in
theorem r_48_0 {d : Nat} {x1 : Int} {x2 : Int} {x3 : Int} {σ : Mem} {n : Nat} {Q : Pst} (ht : x1 = (σ 24 9) → EV d 48 22 [(17, 24), (0, x1), (0, x2), (0, x3)] [] σ n Q) (hf : ¬ x1 = (σ 24 9) → EV d 48 8 [(17, 24), (0, x1), (0, x2), (0, x3)] [] σ n Q) : EV d 48 0 [(17, 24), (0, x1), (0, x2), (0, x3)] [] σ n Q := e_load rfl rfl rfl (e_load rfl rfl rfl (e_getf rfl rfl rfl (by decide) (e_icp rfl c0 ht (hf))))
set_option maxRecDepth 20000 in
theorem r_48_8 {d : Nat} {x1 : Int} {x2 : Int} {x3 : Int} {σ : Mem} {n : Nat} {Q : Pst} (ht : (σ 24 9) ≤ x1 → EV d 48 20 [(17, 24), (0, x1), (0, x2), (0, x3)] [] σ n Q) (hf : x1 < (σ 24 9) → EV d 48 16 [(17, 24), (0, x1), (0, x2), (0, x3)] [] σ n Q) : EV d 48 8 [(17, 24), (0, x1), (0, x2), (0, x3)] [] σ n Q := e_load rfl rfl rfl (e_load rfl rfl rfl (e_getf rfl rfl rfl (by decide) (e_icp rfl c3 ht (fun h => hf (Int.not_le.mp h)))))
set_option maxRecDepth 20000 in
theorem r_48_16 {d : Nat} {x1 : Int} {x2 : Int} {x3 : Int} {σ : Mem} {n : Nat} {Q : Pst} (k : Q (some (0, 1)) σ n) : EV d 48 16 [(17, 24), (0, x1), (0, x2), (0, x3)] [] σ n Q := e_const rfl (e_goto rfl (ev_ret rfl (by decide) rfl k))
set_option maxRecDepth 20000 in
theorem r_48_20 {d : Nat} {x1 : Int} {x2 : Int} {x3 : Int} {σ : Mem} {n : Nat} {Q : Pst} (k : Q (some (0, 0)) σ n) : EV d 48 20 [(17, 24), (0, x1), (0, x2), (0, x3)] [] σ n Q := e_const rfl (ev_ret rfl (by decide) rfl k)
set_option maxRecDepth 20000 in
theorem r_48_22 {d : Nat} {x1 : Int} {x2 : Int} {x3 : Int} {σ : Mem} {n : Nat} {Q : Pst} (ht : (σ 24 6) = 0 → EV d 48 51 [(17, 24), (0, x1), (0, x2), (0, x3)] [] σ n Q) (hf : ¬ (σ 24 6) = 0 → EV d 48 29 [(17, 24), (0, x1), (0, x2), (0, x3)] [] σ n Q) : EV d 48 22 [(17, 24), (0, x1), (0, x2), (0, x3)] [] σ n Q := e_load rfl rfl rfl (e_getf rfl rfl rfl (by decide) (e_ifp rfl c0 ht (hf)))
set_option maxRecDepth 20000 in
theorem r_48_29 {d : Nat} {x1 : Int} {x2 : Int} {x3 : Int} {σ : Mem} {n : Nat} {Q : Pst} (ht : x2 = (σ 24 10) → EV d 48 51 [(17, 24), (0, x1), (0, x2), (0, x3)] [] σ n Q) (hf : ¬ x2 = (σ 24 10) → EV d 48 37 [(17, 24), (0, x1), (0, x2), (0, x3)] [] σ n Q) : EV d 48 29 [(17, 24), (0, x1), (0, x2), (0, x3)] [] σ n Q := e_load rfl rfl rfl (e_load rfl rfl rfl (e_getf rfl rfl rfl (by decide) (e_icp rfl c0 ht (hf))))
set_option maxRecDepth 20000 in
theorem r_48_37 {d : Nat} {x1 : Int} {x2 : Int} {x3 : Int} {σ : Mem} {n : Nat} {Q : Pst} (ht : (σ 24 10) ≤ x2 → EV d 48 49 [(17, 24), (0, x1), (0, x2), (0, x3)] [] σ n Q) (hf : x2 < (σ 24 10) → EV d 48 45 [(17, 24), (0, x1), (0, x2), (0, x3)] [] σ n Q) : EV d 48 37 [(17, 24), (0, x1), (0, x2), (0, x3)] [] σ n Q := e_load rfl rfl rfl (e_load rfl rfl rfl (e_getf rfl rfl rfl (by decide) (e_icp rfl c3 ht (fun h => hf (Int.not_le.mp h)))))
set_option maxRecDepth 20000 in
theorem r_48_45 {d : Nat} {x1 : Int} {x2 : Int} {x3 : Int} {σ : Mem} {n : Nat} {Q : Pst} (k : Q (some (0, 1)) σ n) : EV d 48 45 [(17, 24), (0, x1), (0, x2), (0, x3)] [] σ n Q := e_const rfl (e_goto rfl (ev_ret rfl (by decide) rfl k))
set_option maxRecDepth 20000 in
theorem r_48_49 {d : Nat} {x1 : Int} {x2 : Int} {x3 : Int} {σ : Mem} {n : Nat} {Q : Pst} (k : Q (some (0, 0)) σ n) : EV d 48 49 [(17, 24), (0, x1), (0, x2), (0, x3)] [] σ n Q := e_const rfl (ev_ret rfl (by decide) rfl k)
set_option maxRecDepth 20000 in
theorem r_48_51 {d : Nat} {x1 : Int} {x2 : Int} {x3 : Int} {σ : Mem} {n : Nat} {Q : Pst} (ht : (σ 24 11) ≤ x3 → EV d 48 63 [(17, 24), (0, x1), (0, x2), (0, x3)] [] σ n Q) (hf : x3 < (σ 24 11) → EV d 48 59 [(17, 24), (0, x1), (0, x2), (0, x3)] [] σ n Q) : EV d 48 51 [(17, 24), (0, x1), (0, x2), (0, x3)] [] σ n Q := e_load rfl rfl rfl (e_load rfl rfl rfl (e_getf rfl rfl rfl (by decide) (e_icp rfl c3 ht (fun h => hf (Int.not_le.mp h)))))
set_option maxRecDepth 20000 in
theorem r_48_59 {d : Nat} {x1 : Int} {x2 : Int} {x3 : Int} {σ : Mem} {n : Nat} {Q : Pst} (k : Q (some (0, 1)) σ n) : EV d 48 59 [(17, 24), (0, x1), (0, x2), (0, x3)] [] σ n Q := e_const rfl (e_goto rfl (ev_ret rfl (by decide) rfl k))
set_option maxRecDepth 20000 in
theorem r_48_63 {d : Nat} {x1 : Int} {x2 : Int} {x3 : Int} {σ : Mem} {n : Nat} {Q : Pst} (k : Q (some (0, 0)) σ n) : EV d 48 63 [(17, 24), (0, x1), (0, x2), (0, x3)] [] σ n Q := e_const rfl (ev_ret rfl (by decide) rfl k)
-- 50 HearingDesk$Tape.hasRoomFor(I)Z loops at []
set_option maxRecDepth 20000 in
theorem r_50_0 {d : Nat} {x1 : Int} {σ : Mem} {n : Nat} {Q : Pst} (ht : 600 < (Zadd (σ 50 3) x1) → EV d 50 16 [(18, 50), (0, x1)] [] σ n Q) (hf : (Zadd (σ 50 3) x1) ≤ 600 → EV d 50 12 [(18, 50), (0, x1)] [] σ n Q) : EV d 50 0 [(18, 50), (0, x1)] [] σ n Q := e_load rfl rfl rfl (e_getf rfl rfl rfl (by decide) (e_load rfl rfl rfl (e_bin rfl rfl (e_const rfl (e_icp rfl c4 ht (fun h => hf (Int.not_lt.mp h)))))))
set_option maxRecDepth 20000 in
theorem r_50_12 {d : Nat} {x1 : Int} {σ : Mem} {n : Nat} {Q : Pst} (k : Q (some (0, 1)) σ n) : EV d 50 12 [(18, 50), (0, x1)] [] σ n Q := e_const rfl (e_goto rfl (ev_ret rfl (by decide) rfl k))
set_option maxRecDepth 20000 in
theorem r_50_16 {d : Nat} {x1 : Int} {σ : Mem} {n : Nat} {Q : Pst} (k : Q (some (0, 0)) σ n) : EV d 50 16 [(18, 50), (0, x1)] [] σ n Q := e_const rfl (ev_ret rfl (by decide) rfl k)
-- 51 HearingDesk$Tape.append(I)V loops at [3]
set_option maxRecDepth 20000 in
theorem r_51_0 {d : Nat} {x1 : Int} {l2 : AV} {σ : Mem} {n : Nat} {Q : Pst} (k : EV d 51 3 [(18, 50), (0, x1), (0, 24)] [] σ n Q) : EV d 51 0 [(18, 50), (0, x1), l2] [] σ n Q := e_const rfl (e_store rfl ⟨rfl, Nat.le_of_ble_eq_true rfl, Or.inl rfl⟩ rfl (k))
set_option maxRecDepth 20000 in
theorem r_51_3 {d : Nat} {x1 : Int} {x2 : Int} {σ : Mem} {n : Nat} {Q : Pst} (ht : x2 < 0 → EV d 51 46 [(18, 50), (0, x1), (0, x2)] [] σ n Q) (hf : 0 ≤ x2 → EV d 51 7 [(18, 50), (0, x1), (0, x2)] [] σ n Q) : EV d 51 3 [(18, 50), (0, x1), (0, x2)] [] σ n Q := e_load rfl rfl rfl (e_ifp rfl c2 ht (fun h => hf (Int.not_lt.mp h)))
set_option maxRecDepth 20000 in
theorem r_51_7 {d : Nat} {x1 : Int} {x2 : Int} {σ : Mem} {n : Nat} {Q : Pst} (ht : 600 ≤ (σ 50 3) → EV d 51 46 [(18, 50), (0, x1), (0, x2)] [] σ n Q) (hf : (σ 50 3) < 600 → EV d 51 17 [(18, 50), (0, x1), (0, x2)] [] σ n Q) : EV d 51 7 [(18, 50), (0, x1), (0, x2)] [] σ n Q := e_load rfl rfl rfl (e_getf rfl rfl rfl (by decide) (e_const rfl (e_icp rfl c3 ht (fun h => hf (Int.not_le.mp h)))))
set_option maxRecDepth 20000 in
theorem r_51_17 {d : Nat} {x1 : Int} {x2 : Int} {σ : Mem} {n : Nat} {Q : Pst} (hG : GR σ) (h0 : 0 ≤ (σ 50 3) ∧ (σ 50 3) < 600) (k : EV d 51 3 [(18, 50), (0, x1), (0, (Zadd x2 (-8)))] [] (wrM (wrM σ 51 (σ 50 3) (Zbnar (Zi2b (Zshr x1 x2)))) 50 3 (Zadd (σ 50 3) 1)) n Q) : EV d 51 17 [(18, 50), (0, x1), (0, x2)] [] σ n Q := e_load rfl rfl rfl (e_getg rfl rfl rfl (by decide) (g_50_0 hG) (e_load rfl rfl rfl (e_getf rfl rfl rfl (by decide) (e_load rfl rfl rfl (e_load rfl rfl rfl (e_bin rfl rfl (e_i2b rfl (e_bast rfl (by decide) h0 (e_load rfl rfl rfl (e_dup rfl (Nat.ne_of_beq_eq_false rfl) (e_getg rfl rfl rfl (by decide) (wr_ne (by decide)) (e_const rfl (e_bin rfl rfl (e_putf rfl rfl rfl (by decide) (e_iinc rfl rfl (Or.inl rfl) rfl (e_goto rfl (k)))))))))))))))))
set_option maxRecDepth 20000 in
theorem r_51_46 {d : Nat} {x1 : Int} {x2 : Int} {σ : Mem} {n : Nat} {Q : Pst} (k : Q none σ n) : EV d 51 46 [(18, 50), (0, x1), (0, x2)] [] σ n Q := ev_ret rfl (by decide) rfl k
-- 52 HearingDesk$Tape.readInto(LHearingDesk$FeeText;)I loops at [38]
set_option maxRecDepth 20000 in
theorem r_52_0 {d : Nat} {x1 : Int} {l2 : AV} {l3 : AV} {σ : Mem} {n : Nat} {Q : Pst} (h0 : 0 ≤ x1) (k : EVM d 58 [(18, 50)] (wrM (wrM (wrM σ x1 4 0) 50 1 0) 50 2 0) n (fun r σ1 n1 => EV (d + 1) 52 19 [(18, 50), (12, x1), l2, l3] (r.toList ++ []) σ1 n1 Q)) : EV (d + 1) 52 0 [(18, 50), (12, x1), l2, l3] [] σ n Q := e_load rfl rfl rfl (e_const rfl (e_putf rfl rfl rfl h0 (e_load rfl rfl rfl (e_const rfl (e_putf rfl rfl rfl (by decide) (e_load rfl rfl rfl (e_const rfl (e_putf rfl rfl rfl (by decide) (e_load rfl rfl rfl (ev_call rfl ⟨Nat.le_of_ble_eq_true rfl, Nat.le_of_ble_eq_true rfl, argM_v (by decide) rfl (by decide) rfl⟩ k))))))))))
set_option maxRecDepth 20000 in
theorem r_52_19 {d : Nat} {x1 : Int} {l2 : AV} {l3 : AV} {σ : Mem} {n : Nat} {Q : Pst} (ht : (σ 50 3) ≤ (σ 50 1) → EV d 52 34 [(18, 50), (12, x1), l2, l3] [] σ n Q) (hf : (σ 50 1) < (σ 50 3) → EV d 52 30 [(18, 50), (12, x1), l2, l3] [] σ n Q) : EV d 52 19 [(18, 50), (12, x1), l2, l3] [] σ n Q := e_load rfl rfl rfl (e_getf rfl rfl rfl (by decide) (e_load rfl rfl rfl (e_getf rfl rfl rfl (by decide) (e_icp rfl c3 ht (fun h => hf (Int.not_le.mp h))))))
set_option maxRecDepth 20000 in
theorem r_52_30 {d : Nat} {x1 : Int} {l2 : AV} {l3 : AV} {σ : Mem} {n : Nat} {Q : Pst} (k : EV d 52 38 [(18, 50), (12, x1), (0, 1), (0, 0)] [] σ n Q) : EV d 52 30 [(18, 50), (12, x1), l2, l3] [] σ n Q := e_const rfl (e_goto rfl (e_store rfl ⟨rfl, Nat.le_of_ble_eq_true rfl, Or.inl rfl⟩ rfl (e_const rfl (e_store rfl ⟨rfl, Nat.le_of_ble_eq_true rfl, Or.inl rfl⟩ rfl (k)))))
set_option maxRecDepth 20000 in
theorem r_52_34 {d : Nat} {x1 : Int} {l2 : AV} {l3 : AV} {σ : Mem} {n : Nat} {Q : Pst} (k : EV d 52 38 [(18, 50), (12, x1), (0, 0), (0, 0)] [] σ n Q) : EV d 52 34 [(18, 50), (12, x1), l2, l3] [] σ n Q := e_const rfl (e_store rfl ⟨rfl, Nat.le_of_ble_eq_true rfl, Or.inl rfl⟩ rfl (e_const rfl (e_store rfl ⟨rfl, Nat.le_of_ble_eq_true rfl, Or.inl rfl⟩ rfl (k))))
set_option maxRecDepth 20000 in
theorem r_52_38 {d : Nat} {x1 : Int} {x2 : Int} {x3 : Int} {σ : Mem} {n : Nat} {Q : Pst} (ht : x2 = 0 → EV d 52 80 [(18, 50), (12, x1), (0, x2), (0, x3)] [] σ n Q) (hf : ¬ x2 = 0 → EV d 52 42 [(18, 50), (12, x1), (0, x2), (0, x3)] [] σ n Q) : EV d 52 38 [(18, 50), (12, x1), (0, x2), (0, x3)] [] σ n Q := e_load rfl rfl rfl (e_ifp rfl c0 ht (hf))
set_option maxRecDepth 20000 in
theorem r_52_42 {d : Nat} {x1 : Int} {x2 : Int} {x3 : Int} {σ : Mem} {n : Nat} {Q : Pst} (ht : 600 < x3 → EV d 52 80 [(18, 50), (12, x1), (0, x2), (0, x3)] [] σ n Q) (hf : x3 ≤ 600 → EV d 52 49 [(18, 50), (12, x1), (0, x2), (0, x3)] [] σ n Q) : EV d 52 42 [(18, 50), (12, x1), (0, x2), (0, x3)] [] σ n Q := e_load rfl rfl rfl (e_const rfl (e_icp rfl c4 ht (fun h => hf (Int.not_lt.mp h))))
set_option maxRecDepth 20000 in
theorem r_52_49 {d : Nat} {x1 : Int} {x2 : Int} {x3 : Int} {σ : Mem} {n : Nat} {Q : Pst} (k : EVM d 53 [(18, 50), (12, x1)] σ n (fun r σ1 n1 => EV (d + 1) 52 54 [(18, 50), (12, x1), (0, x2), (0, x3)] (r.toList ++ []) σ1 n1 Q)) : EV (d + 1) 52 49 [(18, 50), (12, x1), (0, x2), (0, x3)] [] σ n Q := e_load rfl rfl rfl (e_load rfl rfl rfl (ev_call rfl ⟨Nat.le_of_ble_eq_true rfl, Nat.le_of_ble_eq_true rfl, argM_v (by decide) rfl (by decide) rfl⟩ k))
set_option maxRecDepth 20000 in
theorem r_52_54 {d : Nat} {x1 : Int} {x2 : Int} {x3 : Int} {σ : Mem} {n : Nat} {Q : Pst} (ht : ¬ (σ 50 2) = 0 → EV d 52 72 [(18, 50), (12, x1), (0, x2), (0, x3)] [] σ n Q) (hf : (σ 50 2) = 0 → EV d 52 61 [(18, 50), (12, x1), (0, x2), (0, x3)] [] σ n Q) : EV d 52 54 [(18, 50), (12, x1), (0, x2), (0, x3)] [] σ n Q := e_load rfl rfl rfl (e_getf rfl rfl rfl (by decide) (e_ifp rfl c1 ht (fun h => hf (Decidable.not_not.mp h))))
set_option maxRecDepth 20000 in
theorem r_52_61 {d : Nat} {x1 : Int} {x2 : Int} {x3 : Int} {σ : Mem} {n : Nat} {Q : Pst} (k : EVM d 54 [(18, 50)] σ n (fun r σ1 n1 => EV (d + 1) 52 65 [(18, 50), (12, x1), (0, x2), (0, x3)] (r.toList ++ []) σ1 n1 Q)) : EV (d + 1) 52 61 [(18, 50), (12, x1), (0, x2), (0, x3)] [] σ n Q := e_load rfl rfl rfl (ev_call rfl ⟨Nat.le_of_ble_eq_true rfl, Nat.le_of_ble_eq_true rfl, argM_v (by decide) rfl (by decide) rfl⟩ k)
set_option maxRecDepth 20000 in
theorem r_52_65 {d : Nat} {x1 : Int} {x2 : Int} {x3 : Int} {y0 : Int} {σ : Mem} {n : Nat} {Q : Pst} (ht : y0 = 0 → EV d 52 72 [(18, 50), (12, x1), (0, x2), (0, x3)] [] σ n Q) (hf : ¬ y0 = 0 → EV d 52 68 [(18, 50), (12, x1), (0, x2), (0, x3)] [] σ n Q) : EV d 52 65 [(18, 50), (12, x1), (0, x2), (0, x3)] [(0, y0)] σ n Q := e_ifp rfl c0 ht (hf)
set_option maxRecDepth 20000 in
theorem r_52_68 {d : Nat} {x1 : Int} {x2 : Int} {x3 : Int} {σ : Mem} {n : Nat} {Q : Pst} (k : EV d 52 38 [(18, 50), (12, x1), (0, 1), (0, (Zadd x3 1))] [] σ n Q) : EV d 52 68 [(18, 50), (12, x1), (0, x2), (0, x3)] [] σ n Q := e_const rfl (e_goto rfl (e_store rfl ⟨rfl, Nat.le_of_ble_eq_true rfl, Or.inl rfl⟩ rfl (e_iinc rfl rfl (Or.inl rfl) rfl (e_goto rfl (k)))))
set_option maxRecDepth 20000 in
theorem r_52_72 {d : Nat} {x1 : Int} {x2 : Int} {x3 : Int} {σ : Mem} {n : Nat} {Q : Pst} (k : EV d 52 38 [(18, 50), (12, x1), (0, 0), (0, (Zadd x3 1))] [] σ n Q) : EV d 52 72 [(18, 50), (12, x1), (0, x2), (0, x3)] [] σ n Q := e_const rfl (e_store rfl ⟨rfl, Nat.le_of_ble_eq_true rfl, Or.inl rfl⟩ rfl (e_iinc rfl rfl (Or.inl rfl) rfl (e_goto rfl (k))))
set_option maxRecDepth 20000 in
theorem r_52_80 {d : Nat} {x1 : Int} {x2 : Int} {x3 : Int} {σ : Mem} {n : Nat} {Q : Pst} (k : Q (some (0, (σ 50 2))) σ n) : EV d 52 80 [(18, 50), (12, x1), (0, x2), (0, x3)] [] σ n Q := e_load rfl rfl rfl (e_getf rfl rfl rfl (by decide) (ev_ret rfl (by decide) rfl k))
-- 53 HearingDesk$Tape.readClause(LHearingDesk$FeeText;)V loops at []
set_option maxRecDepth 20000 in
theorem r_53_0 {d : Nat} {x1 : Int} {l2 : AV} {l3 : AV} {l4 : AV} {l5 : AV} {l6 : AV} {σ : Mem} {n : Nat} {Q : Pst} (k : EVM d 55 [(18, 50)] σ n (fun r σ1 n1 => EV (d + 1) 53 4 [(18, 50), (12, x1), l2, l3, l4, l5, l6] (r.toList ++ []) σ1 n1 Q)) : EV (d + 1) 53 0 [(18, 50), (12, x1), l2, l3, l4, l5, l6] [] σ n Q := e_load rfl rfl rfl (ev_call rfl ⟨Nat.le_of_ble_eq_true rfl, Nat.le_of_ble_eq_true rfl, argM_v (by decide) rfl (by decide) rfl⟩ k)
set_option maxRecDepth 20000 in
theorem r_53_4 {d : Nat} {x1 : Int} {l2 : AV} {l3 : AV} {l4 : AV} {l5 : AV} {l6 : AV} {σ : Mem} {n : Nat} {Q : Pst} (k : EVM d 57 [(18, 50), (0, 0), (0, 999)] σ n (fun r σ1 n1 => EV (d + 1) 53 12 [(18, 50), (12, x1), l2, l3, l4, l5, l6] (r.toList ++ []) σ1 n1 Q)) : EV (d + 1) 53 4 [(18, 50), (12, x1), l2, l3, l4, l5, l6] [] σ n Q := e_load rfl rfl rfl (e_const rfl (e_const rfl (ev_call rfl ⟨Nat.le_of_ble_eq_true rfl, Nat.le_of_ble_eq_true rfl, argM_v (by decide) rfl (by decide) rfl⟩ k)))
set_option maxRecDepth 20000 in
theorem r_53_12 {d : Nat} {x1 : Int} {l2 : AV} {l3 : AV} {l4 : AV} {l5 : AV} {l6 : AV} {y0 : Int} {σ : Mem} {n : Nat} {Q : Pst} (k : EVM d 56 [(18, 50)] σ n (fun r σ1 n1 => EV (d + 1) 53 17 [(18, 50), (12, x1), (0, y0), l3, l4, l5, l6] (r.toList ++ []) σ1 n1 Q)) : EV (d + 1) 53 12 [(18, 50), (12, x1), l2, l3, l4, l5, l6] [(0, y0)] σ n Q := e_store rfl ⟨rfl, Nat.le_of_ble_eq_true rfl, Or.inl rfl⟩ rfl (e_load rfl rfl rfl (ev_call rfl ⟨Nat.le_of_ble_eq_true rfl, Nat.le_of_ble_eq_true rfl, argM_v (by decide) rfl (by decide) rfl⟩ k))
set_option maxRecDepth 20000 in
theorem r_53_17 {d : Nat} {x1 : Int} {x2 : Int} {l3 : AV} {l4 : AV} {l5 : AV} {l6 : AV} {y0 : Int} {σ : Mem} {n : Nat} {Q : Pst} (ht : ¬ y0 = 5 → EV d 53 32 [(18, 50), (12, x1), (0, x2), (0, y0), l4, l5, l6] [] σ n Q) (hf : y0 = 5 → EV d 53 23 [(18, 50), (12, x1), (0, x2), (0, y0), l4, l5, l6] [] σ n Q) : EV d 53 17 [(18, 50), (12, x1), (0, x2), l3, l4, l5, l6] [(0, y0)] σ n Q := e_store rfl ⟨rfl, Nat.le_of_ble_eq_true rfl, Or.inl rfl⟩ rfl (e_load rfl rfl rfl (e_const rfl (e_icp rfl c1 ht (fun h => hf (Decidable.not_not.mp h)))))
set_option maxRecDepth 20000 in
theorem r_53_23 {d : Nat} {x1 : Int} {x2 : Int} {x3 : Int} {l4 : AV} {l5 : AV} {l6 : AV} {σ : Mem} {n : Nat} {Q : Pst} (k : EVM d 57 [(18, 50), (0, 1), (0, 5)] σ n (fun r σ1 n1 => EV (d + 1) 53 29 [(18, 50), (12, x1), (0, x2), (0, x3), l4, l5, l6] (r.toList ++ []) σ1 n1 Q)) : EV (d + 1) 53 23 [(18, 50), (12, x1), (0, x2), (0, x3), l4, l5, l6] [] σ n Q := e_load rfl rfl rfl (e_const rfl (e_const rfl (ev_call rfl ⟨Nat.le_of_ble_eq_true rfl, Nat.le_of_ble_eq_true rfl, argM_v (by decide) rfl (by decide) rfl⟩ k)))
set_option maxRecDepth 20000 in
theorem r_53_29 {d : Nat} {x1 : Int} {x2 : Int} {x3 : Int} {l4 : AV} {l5 : AV} {l6 : AV} {y0 : Int} {σ : Mem} {n : Nat} {Q : Pst} (k : EVM d 66 [(0, x3)] σ n (fun r σ1 n1 => EV (d + 1) 53 40 [(18, 50), (12, x1), (0, x2), (0, x3), (0, y0), l5, l6] (r.toList ++ [(18, 50)]) σ1 n1 Q)) : EV (d + 1) 53 29 [(18, 50), (12, x1), (0, x2), (0, x3), l4, l5, l6] [(0, y0)] σ n Q := e_goto rfl (e_store rfl ⟨rfl, Nat.le_of_ble_eq_true rfl, Or.inl rfl⟩ rfl (e_load rfl rfl rfl (e_load rfl rfl rfl (ev_call rfl ⟨Nat.le_of_ble_eq_true rfl, Nat.le_of_ble_eq_true rfl, rfl⟩ k))))
set_option maxRecDepth 20000 in
theorem r_53_32 {d : Nat} {x1 : Int} {x2 : Int} {x3 : Int} {l4 : AV} {l5 : AV} {l6 : AV} {σ : Mem} {n : Nat} {Q : Pst} (k : EVM d 66 [(0, x3)] σ n (fun r σ1 n1 => EV (d + 1) 53 40 [(18, 50), (12, x1), (0, x2), (0, x3), (0, 0), l5, l6] (r.toList ++ [(18, 50)]) σ1 n1 Q)) : EV (d + 1) 53 32 [(18, 50), (12, x1), (0, x2), (0, x3), l4, l5, l6] [] σ n Q := e_const rfl (e_store rfl ⟨rfl, Nat.le_of_ble_eq_true rfl, Or.inl rfl⟩ rfl (e_load rfl rfl rfl (e_load rfl rfl rfl (ev_call rfl ⟨Nat.le_of_ble_eq_true rfl, Nat.le_of_ble_eq_true rfl, rfl⟩ k))))
set_option maxRecDepth 20000 in
theorem r_53_40 {d : Nat} {x1 : Int} {x2 : Int} {x3 : Int} {x4 : Int} {l5 : AV} {l6 : AV} {y1 : Int} {σ : Mem} {n : Nat} {Q : Pst} (k : EVM d 67 [(0, x3)] σ n (fun r σ1 n1 => EV (d + 1) 53 44 [(18, 50), (12, x1), (0, x2), (0, x3), (0, x4), l5, l6] (r.toList ++ [(0, y1), (18, 50)]) σ1 n1 Q)) : EV (d + 1) 53 40 [(18, 50), (12, x1), (0, x2), (0, x3), (0, x4), l5, l6] [(0, y1), (18, 50)] σ n Q := e_load rfl rfl rfl (ev_call rfl ⟨Nat.le_of_ble_eq_true rfl, Nat.le_of_ble_eq_true rfl, rfl⟩ k)
set_option maxRecDepth 20000 in
theorem r_53_44 {d : Nat} {x1 : Int} {x2 : Int} {x3 : Int} {x4 : Int} {l5 : AV} {l6 : AV} {y1 : Int} {y2 : Int} {σ : Mem} {n : Nat} {Q : Pst} (k : EVM d 57 [(18, 50), (0, y1), (0, y2)] σ n (fun r σ1 n1 => EV (d + 1) 53 47 [(18, 50), (12, x1), (0, x2), (0, x3), (0, x4), l5, l6] (r.toList ++ []) σ1 n1 Q)) : EV (d + 1) 53 44 [(18, 50), (12, x1), (0, x2), (0, x3), (0, x4), l5, l6] [(0, y2), (0, y1), (18, 50)] σ n Q := ev_call rfl ⟨Nat.le_of_ble_eq_true rfl, Nat.le_of_ble_eq_true rfl, argM_v (by decide) rfl (by decide) rfl⟩ k
set_option maxRecDepth 20000 in
theorem r_53_47 {d : Nat} {x1 : Int} {x2 : Int} {x3 : Int} {x4 : Int} {l5 : AV} {l6 : AV} {y0 : Int} {σ : Mem} {n : Nat} {Q : Pst} (ht : ¬ x3 = 4 → EV d 53 64 [(18, 50), (12, x1), (0, x2), (0, x3), (0, x4), (0, y0), l6] [] σ n Q) (hf : x3 = 4 → EV d 53 54 [(18, 50), (12, x1), (0, x2), (0, x3), (0, x4), (0, y0), l6] [] σ n Q) : EV d 53 47 [(18, 50), (12, x1), (0, x2), (0, x3), (0, x4), l5, l6] [(0, y0)] σ n Q := e_store rfl ⟨rfl, Nat.le_of_ble_eq_true rfl, Or.inl rfl⟩ rfl (e_load rfl rfl rfl (e_const rfl (e_icp rfl c1 ht (fun h => hf (Decidable.not_not.mp h)))))
set_option maxRecDepth 20000 in
theorem r_53_54 {d : Nat} {x1 : Int} {x2 : Int} {x3 : Int} {x4 : Int} {x5 : Int} {l6 : AV} {σ : Mem} {n : Nat} {Q : Pst} (k : EVM d 57 [(18, 50), (0, 0), (0, 100)] σ n (fun r σ1 n1 => EV (d + 1) 53 61 [(18, 50), (12, x1), (0, x2), (0, x3), (0, x4), (0, x5), l6] (r.toList ++ []) σ1 n1 Q)) : EV (d + 1) 53 54 [(18, 50), (12, x1), (0, x2), (0, x3), (0, x4), (0, x5), l6] [] σ n Q := e_load rfl rfl rfl (e_const rfl (e_const rfl (ev_call rfl ⟨Nat.le_of_ble_eq_true rfl, Nat.le_of_ble_eq_true rfl, argM_v (by decide) rfl (by decide) rfl⟩ k)))
set_option maxRecDepth 20000 in
theorem r_53_61 {d : Nat} {x1 : Int} {x2 : Int} {x3 : Int} {x4 : Int} {x5 : Int} {l6 : AV} {y0 : Int} {σ : Mem} {n : Nat} {Q : Pst} (ht : ¬ (σ 50 2) = 0 → EV d 53 97 [(18, 50), (12, x1), (0, x2), (0, x3), (0, x4), (0, x5), (0, y0)] [] σ n Q) (hf : (σ 50 2) = 0 → EV d 53 74 [(18, 50), (12, x1), (0, x2), (0, x3), (0, x4), (0, x5), (0, y0)] [] σ n Q) : EV d 53 61 [(18, 50), (12, x1), (0, x2), (0, x3), (0, x4), (0, x5), l6] [(0, y0)] σ n Q := e_goto rfl (e_store rfl ⟨rfl, Nat.le_of_ble_eq_true rfl, Or.inl rfl⟩ rfl (e_load rfl rfl rfl (e_getf rfl rfl rfl (by decide) (e_ifp rfl c1 ht (fun h => hf (Decidable.not_not.mp h))))))
set_option maxRecDepth 20000 in
theorem r_53_64 {d : Nat} {x1 : Int} {x2 : Int} {x3 : Int} {x4 : Int} {x5 : Int} {l6 : AV} {σ : Mem} {n : Nat} {Q : Pst} (ht : ¬ (σ 50 2) = 0 → EV d 53 97 [(18, 50), (12, x1), (0, x2), (0, x3), (0, x4), (0, x5), (0, 0)] [] σ n Q) (hf : (σ 50 2) = 0 → EV d 53 74 [(18, 50), (12, x1), (0, x2), (0, x3), (0, x4), (0, x5), (0, 0)] [] σ n Q) : EV d 53 64 [(18, 50), (12, x1), (0, x2), (0, x3), (0, x4), (0, x5), l6] [] σ n Q := e_const rfl (e_store rfl ⟨rfl, Nat.le_of_ble_eq_true rfl, Or.inl rfl⟩ rfl (e_load rfl rfl rfl (e_getf rfl rfl rfl (by decide) (e_ifp rfl c1 ht (fun h => hf (Decidable.not_not.mp h))))))
set_option maxRecDepth 20000 in
theorem r_53_74 {d : Nat} {x1 : Int} {x2 : Int} {x3 : Int} {x4 : Int} {x5 : Int} {x6 : Int} {σ : Mem} {n : Nat} {Q : Pst} (ht : ¬ x3 = 5 → EV d 53 89 [(18, 50), (12, x1), (0, x2), (0, x3), (0, x4), (0, x5), (0, x6)] [(0, x2), (12, x1)] σ n Q) (hf : x3 = 5 → EV d 53 81 [(18, 50), (12, x1), (0, x2), (0, x3), (0, x4), (0, x5), (0, x6)] [(0, x2), (12, x1)] σ n Q) : EV d 53 74 [(18, 50), (12, x1), (0, x2), (0, x3), (0, x4), (0, x5), (0, x6)] [] σ n Q := e_load rfl rfl rfl (e_load rfl rfl rfl (e_load rfl rfl rfl (e_const rfl (e_icp rfl c1 ht (fun h => hf (Decidable.not_not.mp h))))))
set_option maxRecDepth 20000 in
theorem r_53_81 {d : Nat} {x1 : Int} {x2 : Int} {x3 : Int} {x4 : Int} {x5 : Int} {x6 : Int} {y0 : Int} {y1 : Int} {σ : Mem} {n : Nat} {Q : Pst} (h0 : 0 ≤ y0) (k : EVM d 15 [(12, y0), (0, y1), (0, (Zadd 10 x4)), (0, x5), (0, x6)] σ n (fun r σ1 n1 => EV (d + 1) 53 97 [(18, 50), (12, x1), (0, x2), (0, x3), (0, x4), (0, x5), (0, x6)] (r.toList ++ []) σ1 n1 Q)) : EV (d + 1) 53 81 [(18, 50), (12, x1), (0, x2), (0, x3), (0, x4), (0, x5), (0, x6)] [(0, y1), (12, y0)] σ n Q := e_const rfl (e_load rfl rfl rfl (e_bin rfl rfl (e_goto rfl (e_load rfl rfl rfl (e_load rfl rfl rfl (ev_call rfl ⟨Nat.le_of_ble_eq_true rfl, Nat.le_of_ble_eq_true rfl, argM_v (by decide) rfl h0 rfl⟩ k))))))
set_option maxRecDepth 20000 in
theorem r_53_89 {d : Nat} {x1 : Int} {x2 : Int} {x3 : Int} {x4 : Int} {x5 : Int} {x6 : Int} {y0 : Int} {y1 : Int} {σ : Mem} {n : Nat} {Q : Pst} (h0 : 0 ≤ y0) (k : EVM d 15 [(12, y0), (0, y1), (0, x3), (0, x5), (0, x6)] σ n (fun r σ1 n1 => EV (d + 1) 53 97 [(18, 50), (12, x1), (0, x2), (0, x3), (0, x4), (0, x5), (0, x6)] (r.toList ++ []) σ1 n1 Q)) : EV (d + 1) 53 89 [(18, 50), (12, x1), (0, x2), (0, x3), (0, x4), (0, x5), (0, x6)] [(0, y1), (12, y0)] σ n Q := e_load rfl rfl rfl (e_load rfl rfl rfl (e_load rfl rfl rfl (ev_call rfl ⟨Nat.le_of_ble_eq_true rfl, Nat.le_of_ble_eq_true rfl, argM_v (by decide) rfl h0 rfl⟩ k)))
set_option maxRecDepth 20000 in
theorem r_53_97 {d : Nat} {x1 : Int} {x2 : Int} {x3 : Int} {x4 : Int} {x5 : Int} {x6 : Int} {σ : Mem} {n : Nat} {Q : Pst} (k : Q none σ n) : EV d 53 97 [(18, 50), (12, x1), (0, x2), (0, x3), (0, x4), (0, x5), (0, x6)] [] σ n Q := ev_ret rfl (by decide) rfl k
-- 54 HearingDesk$Tape.readSemicolon()Z loops at []
set_option maxRecDepth 20000 in
theorem r_54_0 {d : Nat}  {σ : Mem} {n : Nat} {Q : Pst} (k : EVM d 58 [(18, 50)] σ n (fun r σ1 n1 => EV (d + 1) 54 4 [(18, 50)] (r.toList ++ []) σ1 n1 Q)) : EV (d + 1) 54 0 [(18, 50)] [] σ n Q := e_load rfl rfl rfl (ev_call rfl ⟨Nat.le_of_ble_eq_true rfl, Nat.le_of_ble_eq_true rfl, argM_v (by decide) rfl (by decide) rfl⟩ k)
set_option maxRecDepth 20000 in
theorem r_54_4 {d : Nat}  {σ : Mem} {n : Nat} {Q : Pst} (ht : (σ 50 1) < (σ 50 3) → EV d 54 17 [(18, 50)] [] σ n Q) (hf : (σ 50 3) ≤ (σ 50 1) → EV d 54 15 [(18, 50)] [] σ n Q) : EV d 54 4 [(18, 50)] [] σ n Q := e_load rfl rfl rfl (e_getf rfl rfl rfl (by decide) (e_load rfl rfl rfl (e_getf rfl rfl rfl (by decide) (e_icp rfl c2 ht (fun h => hf (Int.not_lt.mp h))))))
set_option maxRecDepth 20000 in
theorem r_54_15 {d : Nat}  {σ : Mem} {n : Nat} {Q : Pst} (k : Q (some (0, 0)) σ n) : EV d 54 15 [(18, 50)] [] σ n Q := e_const rfl (ev_ret rfl (by decide) rfl k)
set_option maxRecDepth 20000 in
theorem r_54_17 {d : Nat}  {σ : Mem} {n : Nat} {Q : Pst} (k : EVM d 61 [(18, 50), (0, (σ 50 1))] σ n (fun r σ1 n1 => EV (d + 1) 54 25 [(18, 50)] (r.toList ++ []) σ1 n1 Q)) : EV (d + 1) 54 17 [(18, 50)] [] σ n Q := e_load rfl rfl rfl (e_load rfl rfl rfl (e_getf rfl rfl rfl (by decide) (ev_call rfl ⟨Nat.le_of_ble_eq_true rfl, Nat.le_of_ble_eq_true rfl, argM_v (by decide) rfl (by decide) rfl⟩ k)))
set_option maxRecDepth 20000 in
theorem r_54_25 {d : Nat} {y0 : Int} {σ : Mem} {n : Nat} {Q : Pst} (ht : y0 = 59 → EV d 54 41 [(18, 50)] [] σ n Q) (hf : ¬ y0 = 59 → EV d 54 30 [(18, 50)] [] σ n Q) : EV d 54 25 [(18, 50)] [(0, y0)] σ n Q := e_const rfl (e_icp rfl c0 ht (hf))
set_option maxRecDepth 20000 in
theorem r_54_30 {d : Nat}  {σ : Mem} {n : Nat} {Q : Pst} (k : EVM d 62 [(18, 50), (0, 1), (0, (σ 50 1))] σ n (fun r σ1 n1 => EV (d + 1) 54 39 [(18, 50)] (r.toList ++ []) σ1 n1 Q)) : EV (d + 1) 54 30 [(18, 50)] [] σ n Q := e_load rfl rfl rfl (e_const rfl (e_load rfl rfl rfl (e_getf rfl rfl rfl (by decide) (ev_call rfl ⟨Nat.le_of_ble_eq_true rfl, Nat.le_of_ble_eq_true rfl, argM_v (by decide) rfl (by decide) rfl⟩ k))))
set_option maxRecDepth 20000 in
theorem r_54_39 {d : Nat}  {σ : Mem} {n : Nat} {Q : Pst} (k : Q (some (0, 0)) σ n) : EV d 54 39 [(18, 50)] [] σ n Q := e_const rfl (ev_ret rfl (by decide) rfl k)
set_option maxRecDepth 20000 in
theorem r_54_41 {d : Nat}  {σ : Mem} {n : Nat} {Q : Pst} (k : Q (some (0, 1)) (wrM σ 50 1 (Zadd (σ 50 1) 1)) n) : EV d 54 41 [(18, 50)] [] σ n Q := e_load rfl rfl rfl (e_dup rfl (Nat.ne_of_beq_eq_false rfl) (e_getf rfl rfl rfl (by decide) (e_const rfl (e_bin rfl rfl (e_putf rfl rfl rfl (by decide) (e_const rfl (ev_ret rfl (by decide) rfl k)))))))
-- 55 HearingDesk$Tape.readFrom()V loops at []
set_option maxRecDepth 20000 in
theorem r_55_0 {d : Nat} {l1 : AV} {σ : Mem} {n : Nat} {Q : Pst} (k : EVM d 59 [(18, 50)] σ n (fun r σ1 n1 => EV (d + 1) 55 4 [(18, 50), l1] (r.toList ++ []) σ1 n1 Q)) : EV (d + 1) 55 0 [(18, 50), l1] [] σ n Q := e_load rfl rfl rfl (ev_call rfl ⟨Nat.le_of_ble_eq_true rfl, Nat.le_of_ble_eq_true rfl, argM_v (by decide) rfl (by decide) rfl⟩ k)
set_option maxRecDepth 20000 in
theorem r_55_4 {d : Nat} {l1 : AV} {y0 : Int} {σ : Mem} {n : Nat} {Q : Pst} (k : EVM d 60 [(18, 50), (3, 0), (0, y0)] σ n (fun r σ1 n1 => EV (d + 1) 55 12 [(18, 50), (0, y0)] (r.toList ++ []) σ1 n1 Q)) : EV (d + 1) 55 4 [(18, 50), l1] [(0, y0)] σ n Q := e_store rfl ⟨rfl, Nat.le_of_ble_eq_true rfl, Or.inl rfl⟩ rfl (e_load rfl rfl rfl (e_str rfl (e_load rfl rfl rfl (ev_call rfl ⟨Nat.le_of_ble_eq_true rfl, Nat.le_of_ble_eq_true rfl, argM_v (by decide) rfl (by decide) rfl⟩ k))))
set_option maxRecDepth 20000 in
theorem r_55_12 {d : Nat} {x1 : Int} {y0 : Int} {σ : Mem} {n : Nat} {Q : Pst} (ht : ¬ y0 = 0 → EV d 55 21 [(18, 50), (0, x1)] [] σ n Q) (hf : y0 = 0 → EV d 55 15 [(18, 50), (0, x1)] [] σ n Q) : EV d 55 12 [(18, 50), (0, x1)] [(0, y0)] σ n Q := e_ifp rfl c1 ht (fun h => hf (Decidable.not_not.mp h))
set_option maxRecDepth 20000 in
theorem r_55_15 {d : Nat} {x1 : Int} {σ : Mem} {n : Nat} {Q : Pst} (k : EVM d 62 [(18, 50), (0, 1), (0, x1)] σ n (fun r σ1 n1 => EV (d + 1) 55 21 [(18, 50), (0, x1)] (r.toList ++ []) σ1 n1 Q)) : EV (d + 1) 55 15 [(18, 50), (0, x1)] [] σ n Q := e_load rfl rfl rfl (e_const rfl (e_load rfl rfl rfl (ev_call rfl ⟨Nat.le_of_ble_eq_true rfl, Nat.le_of_ble_eq_true rfl, argM_v (by decide) rfl (by decide) rfl⟩ k)))
set_option maxRecDepth 20000 in
theorem r_55_21 {d : Nat} {x1 : Int} {σ : Mem} {n : Nat} {Q : Pst} (k : Q none σ n) : EV d 55 21 [(18, 50), (0, x1)] [] σ n Q := ev_ret rfl (by decide) rfl k
-- 56 HearingDesk$Tape.readKind()I loops at [7]
set_option maxRecDepth 20000 in
theorem r_56_0 {d : Nat} {l1 : AV} {l2 : AV} {σ : Mem} {n : Nat} {Q : Pst} (k : EVM d 59 [(18, 50)] σ n (fun r σ1 n1 => EV (d + 1) 56 4 [(18, 50), l1, l2] (r.toList ++ []) σ1 n1 Q)) : EV (d + 1) 56 0 [(18, 50), l1, l2] [] σ n Q := e_load rfl rfl rfl (ev_call rfl ⟨Nat.le_of_ble_eq_true rfl, Nat.le_of_ble_eq_true rfl, argM_v (by decide) rfl (by decide) rfl⟩ k)
set_option maxRecDepth 20000 in
theorem r_56_4 {d : Nat} {l1 : AV} {l2 : AV} {y0 : Int} {σ : Mem} {n : Nat} {Q : Pst} (k : EV d 56 7 [(18, 50), (0, y0), (0, 0)] [] σ n Q) : EV d 56 4 [(18, 50), l1, l2] [(0, y0)] σ n Q := e_store rfl ⟨rfl, Nat.le_of_ble_eq_true rfl, Or.inl rfl⟩ rfl (e_const rfl (e_store rfl ⟨rfl, Nat.le_of_ble_eq_true rfl, Or.inl rfl⟩ rfl (k)))
set_option maxRecDepth 20000 in
theorem r_56_7 {d : Nat} {x1 : Int} {x2 : Int} {σ : Mem} {n : Nat} {Q : Pst} (ht : 6 ≤ x2 → EV d 56 33 [(18, 50), (0, x1), (0, x2)] [] σ n Q) (hf : x2 < 6 → EV d 56 13 [(18, 50), (0, x1), (0, x2)] [] σ n Q) : EV d 56 7 [(18, 50), (0, x1), (0, x2)] [] σ n Q := e_load rfl rfl rfl (e_const rfl (e_icp rfl c3 ht (fun h => hf (Int.not_le.mp h))))
set_option maxRecDepth 20000 in
theorem r_56_13 {d : Nat} {x1 : Int} {x2 : Int} {σ : Mem} {n : Nat} {Q : Pst} (k : EVM d 65 [(0, x2)] σ n (fun r σ1 n1 => EV (d + 1) 56 18 [(18, 50), (0, x1), (0, x2)] (r.toList ++ [(18, 50)]) σ1 n1 Q)) : EV (d + 1) 56 13 [(18, 50), (0, x1), (0, x2)] [] σ n Q := e_load rfl rfl rfl (e_load rfl rfl rfl (ev_call rfl ⟨Nat.le_of_ble_eq_true rfl, Nat.le_of_ble_eq_true rfl, rfl⟩ k))
set_option maxRecDepth 20000 in
theorem r_56_18 {d : Nat} {x1 : Int} {x2 : Int} {y1 : Int} {σ : Mem} {n : Nat} {Q : Pst} (k : EVM d 60 [(18, 50), (3, y1), (0, x1)] σ n (fun r σ1 n1 => EV (d + 1) 56 22 [(18, 50), (0, x1), (0, x2)] (r.toList ++ []) σ1 n1 Q)) : EV (d + 1) 56 18 [(18, 50), (0, x1), (0, x2)] [(3, y1), (18, 50)] σ n Q := e_load rfl rfl rfl (ev_call rfl ⟨Nat.le_of_ble_eq_true rfl, Nat.le_of_ble_eq_true rfl, argM_v (by decide) rfl (by decide) rfl⟩ k)
set_option maxRecDepth 20000 in
theorem r_56_22 {d : Nat} {x1 : Int} {x2 : Int} {y0 : Int} {σ : Mem} {n : Nat} {Q : Pst} (ht : y0 = 0 → EV d 56 27 [(18, 50), (0, x1), (0, x2)] [] σ n Q) (hf : ¬ y0 = 0 → EV d 56 25 [(18, 50), (0, x1), (0, x2)] [] σ n Q) : EV d 56 22 [(18, 50), (0, x1), (0, x2)] [(0, y0)] σ n Q := e_ifp rfl c0 ht (hf)
set_option maxRecDepth 20000 in
theorem r_56_25 {d : Nat} {x1 : Int} {x2 : Int} {σ : Mem} {n : Nat} {Q : Pst} (k : Q (some (0, x2)) σ n) : EV d 56 25 [(18, 50), (0, x1), (0, x2)] [] σ n Q := e_load rfl rfl rfl (ev_ret rfl (by decide) rfl k)
set_option maxRecDepth 20000 in
theorem r_56_27 {d : Nat} {x1 : Int} {x2 : Int} {σ : Mem} {n : Nat} {Q : Pst} (k : EV d 56 7 [(18, 50), (0, x1), (0, (Zadd x2 1))] [] σ n Q) : EV d 56 27 [(18, 50), (0, x1), (0, x2)] [] σ n Q := e_iinc rfl rfl (Or.inl rfl) rfl (e_goto rfl (k))
set_option maxRecDepth 20000 in
theorem r_56_33 {d : Nat} {x1 : Int} {x2 : Int} {σ : Mem} {n : Nat} {Q : Pst} (k : EVM d 62 [(18, 50), (0, 1), (0, x1)] σ n (fun r σ1 n1 => EV (d + 1) 56 39 [(18, 50), (0, x1), (0, x2)] (r.toList ++ []) σ1 n1 Q)) : EV (d + 1) 56 33 [(18, 50), (0, x1), (0, x2)] [] σ n Q := e_load rfl rfl rfl (e_const rfl (e_load rfl rfl rfl (ev_call rfl ⟨Nat.le_of_ble_eq_true rfl, Nat.le_of_ble_eq_true rfl, argM_v (by decide) rfl (by decide) rfl⟩ k)))
set_option maxRecDepth 20000 in
theorem r_56_39 {d : Nat} {x1 : Int} {x2 : Int} {σ : Mem} {n : Nat} {Q : Pst} (k : Q (some (0, (-1))) σ n) : EV d 56 39 [(18, 50), (0, x1), (0, x2)] [] σ n Q := e_const rfl (ev_ret rfl (by decide) rfl k)
-- 57 HearingDesk$Tape.readNumber(II)I loops at [12]
set_option maxRecDepth 20000 in
theorem r_57_0 {d : Nat} {x1 : Int} {x2 : Int} {l3 : AV} {l4 : AV} {σ : Mem} {n : Nat} {Q : Pst} (k : EVM d 58 [(18, 50)] σ n (fun r σ1 n1 => EV (d + 1) 57 4 [(18, 50), (0, x1), (0, x2), l3, l4] (r.toList ++ []) σ1 n1 Q)) : EV (d + 1) 57 0 [(18, 50), (0, x1), (0, x2), l3, l4] [] σ n Q := e_load rfl rfl rfl (ev_call rfl ⟨Nat.le_of_ble_eq_true rfl, Nat.le_of_ble_eq_true rfl, argM_v (by decide) rfl (by decide) rfl⟩ k)
set_option maxRecDepth 20000 in
theorem r_57_4 {d : Nat} {x1 : Int} {x2 : Int} {l3 : AV} {l4 : AV} {σ : Mem} {n : Nat} {Q : Pst} (k : EV d 57 12 [(18, 50), (0, x1), (0, x2), (0, (σ 50 1)), (0, 0)] [] σ n Q) : EV d 57 4 [(18, 50), (0, x1), (0, x2), l3, l4] [] σ n Q := e_load rfl rfl rfl (e_getf rfl rfl rfl (by decide) (e_store rfl ⟨rfl, Nat.le_of_ble_eq_true rfl, Or.inl rfl⟩ rfl (e_const rfl (e_store rfl ⟨rfl, Nat.le_of_ble_eq_true rfl, Or.inl rfl⟩ rfl (k)))))
set_option maxRecDepth 20000 in
theorem r_57_12 {d : Nat} {x1 : Int} {x2 : Int} {x3 : Int} {x4 : Int} {σ : Mem} {n : Nat} {Q : Pst} (ht : (σ 50 3) ≤ (σ 50 1) → EV d 57 79 [(18, 50), (0, x1), (0, x2), (0, x3), (0, x4)] [] σ n Q) (hf : (σ 50 1) < (σ 50 3) → EV d 57 23 [(18, 50), (0, x1), (0, x2), (0, x3), (0, x4)] [] σ n Q) : EV d 57 12 [(18, 50), (0, x1), (0, x2), (0, x3), (0, x4)] [] σ n Q := e_load rfl rfl rfl (e_getf rfl rfl rfl (by decide) (e_load rfl rfl rfl (e_getf rfl rfl rfl (by decide) (e_icp rfl c3 ht (fun h => hf (Int.not_le.mp h))))))
set_option maxRecDepth 20000 in
theorem r_57_23 {d : Nat} {x1 : Int} {x2 : Int} {x3 : Int} {x4 : Int} {σ : Mem} {n : Nat} {Q : Pst} (k : EVM d 61 [(18, 50), (0, (σ 50 1))] σ n (fun r σ1 n1 => EV (d + 1) 57 31 [(18, 50), (0, x1), (0, x2), (0, x3), (0, x4)] (r.toList ++ []) σ1 n1 Q)) : EV (d + 1) 57 23 [(18, 50), (0, x1), (0, x2), (0, x3), (0, x4)] [] σ n Q := e_load rfl rfl rfl (e_load rfl rfl rfl (e_getf rfl rfl rfl (by decide) (ev_call rfl ⟨Nat.le_of_ble_eq_true rfl, Nat.le_of_ble_eq_true rfl, argM_v (by decide) rfl (by decide) rfl⟩ k)))
set_option maxRecDepth 20000 in
theorem r_57_31 {d : Nat} {x1 : Int} {x2 : Int} {x3 : Int} {x4 : Int} {y0 : Int} {σ : Mem} {n : Nat} {Q : Pst} (k : EVM d 63 [(0, y0)] σ n (fun r σ1 n1 => EV (d + 1) 57 34 [(18, 50), (0, x1), (0, x2), (0, x3), (0, x4)] (r.toList ++ []) σ1 n1 Q)) : EV (d + 1) 57 31 [(18, 50), (0, x1), (0, x2), (0, x3), (0, x4)] [(0, y0)] σ n Q := ev_call rfl ⟨Nat.le_of_ble_eq_true rfl, Nat.le_of_ble_eq_true rfl, rfl⟩ k
set_option maxRecDepth 20000 in
theorem r_57_34 {d : Nat} {x1 : Int} {x2 : Int} {x3 : Int} {x4 : Int} {y0 : Int} {σ : Mem} {n : Nat} {Q : Pst} (ht : y0 = 0 → EV d 57 79 [(18, 50), (0, x1), (0, x2), (0, x3), (0, x4)] [] σ n Q) (hf : ¬ y0 = 0 → EV d 57 37 [(18, 50), (0, x1), (0, x2), (0, x3), (0, x4)] [] σ n Q) : EV d 57 34 [(18, 50), (0, x1), (0, x2), (0, x3), (0, x4)] [(0, y0)] σ n Q := e_ifp rfl c0 ht (hf)
set_option maxRecDepth 20000 in
theorem r_57_37 {d : Nat} {x1 : Int} {x2 : Int} {x3 : Int} {x4 : Int} {σ : Mem} {n : Nat} {Q : Pst} (ht : 5 ≤ (Zsub (σ 50 1) x3) → EV d 57 66 [(18, 50), (0, x1), (0, x2), (0, x3), (0, x4)] [] σ n Q) (hf : (Zsub (σ 50 1) x3) < 5 → EV d 57 47 [(18, 50), (0, x1), (0, x2), (0, x3), (0, x4)] [] σ n Q) : EV d 57 37 [(18, 50), (0, x1), (0, x2), (0, x3), (0, x4)] [] σ n Q := e_load rfl rfl rfl (e_getf rfl rfl rfl (by decide) (e_load rfl rfl rfl (e_bin rfl rfl (e_const rfl (e_icp rfl c3 ht (fun h => hf (Int.not_le.mp h)))))))
set_option maxRecDepth 20000 in
theorem r_57_47 {d : Nat} {x1 : Int} {x2 : Int} {x3 : Int} {x4 : Int} {σ : Mem} {n : Nat} {Q : Pst} (k : EVM d 61 [(18, 50), (0, (σ 50 1))] σ n (fun r σ1 n1 => EV (d + 1) 57 60 [(18, 50), (0, x1), (0, x2), (0, x3), (0, x4)] (r.toList ++ [(0, (Zmul x4 10))]) σ1 n1 Q)) : EV (d + 1) 57 47 [(18, 50), (0, x1), (0, x2), (0, x3), (0, x4)] [] σ n Q := e_load rfl rfl rfl (e_const rfl (e_bin rfl rfl (e_load rfl rfl rfl (e_load rfl rfl rfl (e_getf rfl rfl rfl (by decide) (ev_call rfl ⟨Nat.le_of_ble_eq_true rfl, Nat.le_of_ble_eq_true rfl, argM_v (by decide) rfl (by decide) rfl⟩ k))))))
set_option maxRecDepth 20000 in
theorem r_57_60 {d : Nat} {x1 : Int} {x2 : Int} {x3 : Int} {x4 : Int} {y0 : Int} {y1 : Int} {σ : Mem} {n : Nat} {Q : Pst} (k : EV d 57 12 [(18, 50), (0, x1), (0, x2), (0, x3), (0, (Zsub (Zadd y0 y1) 48))] [] (wrM σ 50 1 (Zadd (σ 50 1) 1)) n Q) : EV d 57 60 [(18, 50), (0, x1), (0, x2), (0, x3), (0, x4)] [(0, y1), (0, y0)] σ n Q := e_bin rfl rfl (e_const rfl (e_bin rfl rfl (e_store rfl ⟨rfl, Nat.le_of_ble_eq_true rfl, Or.inl rfl⟩ rfl (e_load rfl rfl rfl (e_dup rfl (Nat.ne_of_beq_eq_false rfl) (e_getf rfl rfl rfl (by decide) (e_const rfl (e_bin rfl rfl (e_putf rfl rfl rfl (by decide) (e_goto rfl (k)))))))))))
set_option maxRecDepth 20000 in
theorem r_57_66 {d : Nat} {x1 : Int} {x2 : Int} {x3 : Int} {x4 : Int} {σ : Mem} {n : Nat} {Q : Pst} (k : EV d 57 12 [(18, 50), (0, x1), (0, x2), (0, x3), (0, x4)] [] (wrM σ 50 1 (Zadd (σ 50 1) 1)) n Q) : EV d 57 66 [(18, 50), (0, x1), (0, x2), (0, x3), (0, x4)] [] σ n Q := e_load rfl rfl rfl (e_dup rfl (Nat.ne_of_beq_eq_false rfl) (e_getf rfl rfl rfl (by decide) (e_const rfl (e_bin rfl rfl (e_putf rfl rfl rfl (by decide) (e_goto rfl (k)))))))
set_option maxRecDepth 20000 in
theorem r_57_79 {d : Nat} {x1 : Int} {x2 : Int} {x3 : Int} {x4 : Int} {σ : Mem} {n : Nat} {Q : Pst} (ht : ¬ (σ 50 1) = x3 → EV d 57 96 [(18, 50), (0, x1), (0, x2), (0, x3), (0, x4)] [] σ n Q) (hf : (σ 50 1) = x3 → EV d 57 87 [(18, 50), (0, x1), (0, x2), (0, x3), (0, x4)] [] σ n Q) : EV d 57 79 [(18, 50), (0, x1), (0, x2), (0, x3), (0, x4)] [] σ n Q := e_load rfl rfl rfl (e_getf rfl rfl rfl (by decide) (e_load rfl rfl rfl (e_icp rfl c1 ht (fun h => hf (Decidable.not_not.mp h)))))
set_option maxRecDepth 20000 in
theorem r_57_87 {d : Nat} {x1 : Int} {x2 : Int} {x3 : Int} {x4 : Int} {σ : Mem} {n : Nat} {Q : Pst} (k : EVM d 62 [(18, 50), (0, 1), (0, x3)] σ n (fun r σ1 n1 => EV (d + 1) 57 93 [(18, 50), (0, x1), (0, x2), (0, x3), (0, x4)] (r.toList ++ []) σ1 n1 Q)) : EV (d + 1) 57 87 [(18, 50), (0, x1), (0, x2), (0, x3), (0, x4)] [] σ n Q := e_load rfl rfl rfl (e_const rfl (e_load rfl rfl rfl (ev_call rfl ⟨Nat.le_of_ble_eq_true rfl, Nat.le_of_ble_eq_true rfl, argM_v (by decide) rfl (by decide) rfl⟩ k)))
set_option maxRecDepth 20000 in
theorem r_57_93 {d : Nat} {x1 : Int} {x2 : Int} {x3 : Int} {x4 : Int} {σ : Mem} {n : Nat} {Q : Pst} (k : Q (some (0, x4)) σ n) : EV d 57 93 [(18, 50), (0, x1), (0, x2), (0, x3), (0, x4)] [] σ n Q := e_goto rfl (e_load rfl rfl rfl (ev_ret rfl (by decide) rfl k))
set_option maxRecDepth 20000 in
theorem r_57_96 {d : Nat} {x1 : Int} {x2 : Int} {x3 : Int} {x4 : Int} {σ : Mem} {n : Nat} {Q : Pst} (ht : 5 < (Zsub (σ 50 1) x3) → EV d 57 116 [(18, 50), (0, x1), (0, x2), (0, x3), (0, x4)] [] σ n Q) (hf : (Zsub (σ 50 1) x3) ≤ 5 → EV d 57 106 [(18, 50), (0, x1), (0, x2), (0, x3), (0, x4)] [] σ n Q) : EV d 57 96 [(18, 50), (0, x1), (0, x2), (0, x3), (0, x4)] [] σ n Q := e_load rfl rfl rfl (e_getf rfl rfl rfl (by decide) (e_load rfl rfl rfl (e_bin rfl rfl (e_const rfl (e_icp rfl c4 ht (fun h => hf (Int.not_lt.mp h)))))))
set_option maxRecDepth 20000 in
theorem r_57_106 {d : Nat} {x1 : Int} {x2 : Int} {x3 : Int} {x4 : Int} {σ : Mem} {n : Nat} {Q : Pst} (k : EVM d 114 [(0, x4), (0, x1), (0, x2)] σ n (fun r σ1 n1 => EV (d + 1) 57 113 [(18, 50), (0, x1), (0, x2), (0, x3), (0, x4)] (r.toList ++ []) σ1 n1 Q)) : EV (d + 1) 57 106 [(18, 50), (0, x1), (0, x2), (0, x3), (0, x4)] [] σ n Q := e_load rfl rfl rfl (e_load rfl rfl rfl (e_load rfl rfl rfl (ev_call rfl ⟨Nat.le_of_ble_eq_true rfl, Nat.le_of_ble_eq_true rfl, rfl⟩ k)))
set_option maxRecDepth 20000 in
theorem r_57_113 {d : Nat} {x1 : Int} {x2 : Int} {x3 : Int} {x4 : Int} {y0 : Int} {σ : Mem} {n : Nat} {Q : Pst} (ht : ¬ y0 = 0 → EV d 57 122 [(18, 50), (0, x1), (0, x2), (0, x3), (0, x4)] [] σ n Q) (hf : y0 = 0 → EV d 57 116 [(18, 50), (0, x1), (0, x2), (0, x3), (0, x4)] [] σ n Q) : EV d 57 113 [(18, 50), (0, x1), (0, x2), (0, x3), (0, x4)] [(0, y0)] σ n Q := e_ifp rfl c1 ht (fun h => hf (Decidable.not_not.mp h))
set_option maxRecDepth 20000 in
theorem r_57_116 {d : Nat} {x1 : Int} {x2 : Int} {x3 : Int} {x4 : Int} {σ : Mem} {n : Nat} {Q : Pst} (k : EVM d 62 [(18, 50), (0, 2), (0, x3)] σ n (fun r σ1 n1 => EV (d + 1) 57 122 [(18, 50), (0, x1), (0, x2), (0, x3), (0, x4)] (r.toList ++ []) σ1 n1 Q)) : EV (d + 1) 57 116 [(18, 50), (0, x1), (0, x2), (0, x3), (0, x4)] [] σ n Q := e_load rfl rfl rfl (e_const rfl (e_load rfl rfl rfl (ev_call rfl ⟨Nat.le_of_ble_eq_true rfl, Nat.le_of_ble_eq_true rfl, argM_v (by decide) rfl (by decide) rfl⟩ k)))
set_option maxRecDepth 20000 in
theorem r_57_122 {d : Nat} {x1 : Int} {x2 : Int} {x3 : Int} {x4 : Int} {σ : Mem} {n : Nat} {Q : Pst} (k : Q (some (0, x4)) σ n) : EV d 57 122 [(18, 50), (0, x1), (0, x2), (0, x3), (0, x4)] [] σ n Q := e_load rfl rfl rfl (ev_ret rfl (by decide) rfl k)
-- 58 HearingDesk$Tape.skipBlanks()V loops at [0]
set_option maxRecDepth 20000 in
theorem r_58_0 {d : Nat}  {σ : Mem} {n : Nat} {Q : Pst} (ht : (σ 50 3) ≤ (σ 50 1) → EV d 58 37 [(18, 50)] [] σ n Q) (hf : (σ 50 1) < (σ 50 3) → EV d 58 11 [(18, 50)] [] σ n Q) : EV d 58 0 [(18, 50)] [] σ n Q := e_load rfl rfl rfl (e_getf rfl rfl rfl (by decide) (e_load rfl rfl rfl (e_getf rfl rfl rfl (by decide) (e_icp rfl c3 ht (fun h => hf (Int.not_le.mp h))))))
set_option maxRecDepth 20000 in
theorem r_58_11 {d : Nat}  {σ : Mem} {n : Nat} {Q : Pst} (k : EVM d 61 [(18, 50), (0, (σ 50 1))] σ n (fun r σ1 n1 => EV (d + 1) 58 19 [(18, 50)] (r.toList ++ []) σ1 n1 Q)) : EV (d + 1) 58 11 [(18, 50)] [] σ n Q := e_load rfl rfl rfl (e_load rfl rfl rfl (e_getf rfl rfl rfl (by decide) (ev_call rfl ⟨Nat.le_of_ble_eq_true rfl, Nat.le_of_ble_eq_true rfl, argM_v (by decide) rfl (by decide) rfl⟩ k)))
set_option maxRecDepth 20000 in
theorem r_58_19 {d : Nat} {y0 : Int} {σ : Mem} {n : Nat} {Q : Pst} (ht : ¬ y0 = 32 → EV d 58 37 [(18, 50)] [] σ n Q) (hf : y0 = 32 → EV d 58 24 [(18, 50)] [] σ n Q) : EV d 58 19 [(18, 50)] [(0, y0)] σ n Q := e_const rfl (e_icp rfl c1 ht (fun h => hf (Decidable.not_not.mp h)))
set_option maxRecDepth 20000 in
theorem r_58_24 {d : Nat}  {σ : Mem} {n : Nat} {Q : Pst} (k : EV d 58 0 [(18, 50)] [] (wrM σ 50 1 (Zadd (σ 50 1) 1)) n Q) : EV d 58 24 [(18, 50)] [] σ n Q := e_load rfl rfl rfl (e_dup rfl (Nat.ne_of_beq_eq_false rfl) (e_getf rfl rfl rfl (by decide) (e_const rfl (e_bin rfl rfl (e_putf rfl rfl rfl (by decide) (e_goto rfl (k)))))))
set_option maxRecDepth 20000 in
theorem r_58_37 {d : Nat}  {σ : Mem} {n : Nat} {Q : Pst} (k : Q none σ n) : EV d 58 37 [(18, 50)] [] σ n Q := ev_ret rfl (by decide) rfl k
-- 59 HearingDesk$Tape.passLetters()I loops at [9]
set_option maxRecDepth 20000 in
theorem r_59_0 {d : Nat} {l1 : AV} {σ : Mem} {n : Nat} {Q : Pst} (k : EVM d 58 [(18, 50)] σ n (fun r σ1 n1 => EV (d + 1) 59 4 [(18, 50), l1] (r.toList ++ []) σ1 n1 Q)) : EV (d + 1) 59 0 [(18, 50), l1] [] σ n Q := e_load rfl rfl rfl (ev_call rfl ⟨Nat.le_of_ble_eq_true rfl, Nat.le_of_ble_eq_true rfl, argM_v (by decide) rfl (by decide) rfl⟩ k)
set_option maxRecDepth 20000 in
theorem r_59_4 {d : Nat} {l1 : AV} {σ : Mem} {n : Nat} {Q : Pst} (k : EV d 59 9 [(18, 50), (0, (σ 50 1))] [] σ n Q) : EV d 59 4 [(18, 50), l1] [] σ n Q := e_load rfl rfl rfl (e_getf rfl rfl rfl (by decide) (e_store rfl ⟨rfl, Nat.le_of_ble_eq_true rfl, Or.inl rfl⟩ rfl (k)))
set_option maxRecDepth 20000 in
theorem r_59_9 {d : Nat} {x1 : Int} {σ : Mem} {n : Nat} {Q : Pst} (ht : (σ 50 3) ≤ (σ 50 1) → EV d 59 47 [(18, 50), (0, x1)] [] σ n Q) (hf : (σ 50 1) < (σ 50 3) → EV d 59 20 [(18, 50), (0, x1)] [] σ n Q) : EV d 59 9 [(18, 50), (0, x1)] [] σ n Q := e_load rfl rfl rfl (e_getf rfl rfl rfl (by decide) (e_load rfl rfl rfl (e_getf rfl rfl rfl (by decide) (e_icp rfl c3 ht (fun h => hf (Int.not_le.mp h))))))
set_option maxRecDepth 20000 in
theorem r_59_20 {d : Nat} {x1 : Int} {σ : Mem} {n : Nat} {Q : Pst} (k : EVM d 61 [(18, 50), (0, (σ 50 1))] σ n (fun r σ1 n1 => EV (d + 1) 59 28 [(18, 50), (0, x1)] (r.toList ++ []) σ1 n1 Q)) : EV (d + 1) 59 20 [(18, 50), (0, x1)] [] σ n Q := e_load rfl rfl rfl (e_load rfl rfl rfl (e_getf rfl rfl rfl (by decide) (ev_call rfl ⟨Nat.le_of_ble_eq_true rfl, Nat.le_of_ble_eq_true rfl, argM_v (by decide) rfl (by decide) rfl⟩ k)))
set_option maxRecDepth 20000 in
theorem r_59_28 {d : Nat} {x1 : Int} {y0 : Int} {σ : Mem} {n : Nat} {Q : Pst} (k : EVM d 64 [(0, y0)] σ n (fun r σ1 n1 => EV (d + 1) 59 31 [(18, 50), (0, x1)] (r.toList ++ []) σ1 n1 Q)) : EV (d + 1) 59 28 [(18, 50), (0, x1)] [(0, y0)] σ n Q := ev_call rfl ⟨Nat.le_of_ble_eq_true rfl, Nat.le_of_ble_eq_true rfl, rfl⟩ k
set_option maxRecDepth 20000 in
theorem r_59_31 {d : Nat} {x1 : Int} {y0 : Int} {σ : Mem} {n : Nat} {Q : Pst} (ht : y0 = 0 → EV d 59 47 [(18, 50), (0, x1)] [] σ n Q) (hf : ¬ y0 = 0 → EV d 59 34 [(18, 50), (0, x1)] [] σ n Q) : EV d 59 31 [(18, 50), (0, x1)] [(0, y0)] σ n Q := e_ifp rfl c0 ht (hf)
set_option maxRecDepth 20000 in
theorem r_59_34 {d : Nat} {x1 : Int} {σ : Mem} {n : Nat} {Q : Pst} (k : EV d 59 9 [(18, 50), (0, x1)] [] (wrM σ 50 1 (Zadd (σ 50 1) 1)) n Q) : EV d 59 34 [(18, 50), (0, x1)] [] σ n Q := e_load rfl rfl rfl (e_dup rfl (Nat.ne_of_beq_eq_false rfl) (e_getf rfl rfl rfl (by decide) (e_const rfl (e_bin rfl rfl (e_putf rfl rfl rfl (by decide) (e_goto rfl (k)))))))
set_option maxRecDepth 20000 in
theorem r_59_47 {d : Nat} {x1 : Int} {σ : Mem} {n : Nat} {Q : Pst} (k : Q (some (0, x1)) σ n) : EV d 59 47 [(18, 50), (0, x1)] [] σ n Q := e_load rfl rfl rfl (ev_ret rfl (by decide) rfl k)
-- 60 HearingDesk$Tape.isWord(Ljava/lang/String;I)Z loops at [17]
set_option maxRecDepth 20000 in
theorem r_60_0 {d : Nat} {x1 : Int} {x2 : Int} {l3 : AV} {σ : Mem} {n : Nat} {Q : Pst} (ht : (Zsub (σ 50 1) x2) = (slF x1) → EV d 60 15 [(18, 50), (3, x1), (0, x2), l3] [] σ n Q) (hf : ¬ (Zsub (σ 50 1) x2) = (slF x1) → EV d 60 13 [(18, 50), (3, x1), (0, x2), l3] [] σ n Q) : EV d 60 0 [(18, 50), (3, x1), (0, x2), l3] [] σ n Q := e_load rfl rfl rfl (e_getf rfl rfl rfl (by decide) (e_load rfl rfl rfl (e_bin rfl rfl (e_load rfl rfl rfl (e_slen rfl (Nat.le_of_ble_eq_true rfl) (e_icp rfl c0 ht (hf)))))))
set_option maxRecDepth 20000 in
theorem r_60_13 {d : Nat} {x1 : Int} {x2 : Int} {l3 : AV} {σ : Mem} {n : Nat} {Q : Pst} (k : Q (some (0, 0)) σ n) : EV d 60 13 [(18, 50), (3, x1), (0, x2), l3] [] σ n Q := e_const rfl (ev_ret rfl (by decide) rfl k)
set_option maxRecDepth 20000 in
theorem r_60_15 {d : Nat} {x1 : Int} {x2 : Int} {l3 : AV} {σ : Mem} {n : Nat} {Q : Pst} (k : EV d 60 17 [(18, 50), (3, x1), (0, x2), (0, 0)] [] σ n Q) : EV d 60 15 [(18, 50), (3, x1), (0, x2), l3] [] σ n Q := e_const rfl (e_store rfl ⟨rfl, Nat.le_of_ble_eq_true rfl, Or.inl rfl⟩ rfl (k))
set_option maxRecDepth 20000 in
theorem r_60_17 {d : Nat} {x1 : Int} {x2 : Int} {x3 : Int} {σ : Mem} {n : Nat} {Q : Pst} (ht : (slF x1) ≤ x3 → EV d 60 48 [(18, 50), (3, x1), (0, x2), (0, x3)] [] σ n Q) (hf : x3 < (slF x1) → EV d 60 25 [(18, 50), (3, x1), (0, x2), (0, x3)] [] σ n Q) : EV d 60 17 [(18, 50), (3, x1), (0, x2), (0, x3)] [] σ n Q := e_load rfl rfl rfl (e_load rfl rfl rfl (e_slen rfl (Nat.le_of_ble_eq_true rfl) (e_icp rfl c3 ht (fun h => hf (Int.not_le.mp h)))))
set_option maxRecDepth 20000 in
theorem r_60_25 {d : Nat} {x1 : Int} {x2 : Int} {x3 : Int} {σ : Mem} {n : Nat} {Q : Pst} (k : EVM d 61 [(18, 50), (0, (Zadd x2 x3))] σ n (fun r σ1 n1 => EV (d + 1) 60 32 [(18, 50), (3, x1), (0, x2), (0, x3)] (r.toList ++ []) σ1 n1 Q)) : EV (d + 1) 60 25 [(18, 50), (3, x1), (0, x2), (0, x3)] [] σ n Q := e_load rfl rfl rfl (e_load rfl rfl rfl (e_load rfl rfl rfl (e_bin rfl rfl (ev_call rfl ⟨Nat.le_of_ble_eq_true rfl, Nat.le_of_ble_eq_true rfl, argM_v (by decide) rfl (by decide) rfl⟩ k))))
set_option maxRecDepth 20000 in
theorem r_60_32 {d : Nat} {x1 : Int} {x2 : Int} {x3 : Int} {y0 : Int} {σ : Mem} {n : Nat} {Q : Pst} (h0 : 0 ≤ x3 ∧ x3 < slF x1) (ht : y0 = (scF x1 x3) → EV d 60 42 [(18, 50), (3, x1), (0, x2), (0, x3)] [] σ n Q) (hf : ¬ y0 = (scF x1 x3) → EV d 60 40 [(18, 50), (3, x1), (0, x2), (0, x3)] [] σ n Q) : EV d 60 32 [(18, 50), (3, x1), (0, x2), (0, x3)] [(0, y0)] σ n Q := e_load rfl rfl rfl (e_load rfl rfl rfl (e_schr rfl (Nat.le_of_ble_eq_true rfl) h0 (e_icp rfl c0 ht (hf))))
set_option maxRecDepth 20000 in
theorem r_60_40 {d : Nat} {x1 : Int} {x2 : Int} {x3 : Int} {σ : Mem} {n : Nat} {Q : Pst} (k : Q (some (0, 0)) σ n) : EV d 60 40 [(18, 50), (3, x1), (0, x2), (0, x3)] [] σ n Q := e_const rfl (ev_ret rfl (by decide) rfl k)
set_option maxRecDepth 20000 in
theorem r_60_42 {d : Nat} {x1 : Int} {x2 : Int} {x3 : Int} {σ : Mem} {n : Nat} {Q : Pst} (k : EV d 60 17 [(18, 50), (3, x1), (0, x2), (0, (Zadd x3 1))] [] σ n Q) : EV d 60 42 [(18, 50), (3, x1), (0, x2), (0, x3)] [] σ n Q := e_iinc rfl rfl (Or.inl rfl) rfl (e_goto rfl (k))
set_option maxRecDepth 20000 in
theorem r_60_48 {d : Nat} {x1 : Int} {x2 : Int} {x3 : Int} {σ : Mem} {n : Nat} {Q : Pst} (k : Q (some (0, 1)) σ n) : EV d 60 48 [(18, 50), (3, x1), (0, x2), (0, x3)] [] σ n Q := e_const rfl (ev_ret rfl (by decide) rfl k)
-- 61 HearingDesk$Tape.byteAt(I)I loops at []
set_option maxRecDepth 20000 in
theorem r_61_0 {d : Nat} {x1 : Int} {σ : Mem} {n : Nat} {Q : Pst} (ht : x1 < 0 → EV d 61 32 [(18, 50), (0, x1)] [] σ n Q) (hf : 0 ≤ x1 → EV d 61 4 [(18, 50), (0, x1)] [] σ n Q) : EV d 61 0 [(18, 50), (0, x1)] [] σ n Q := e_load rfl rfl rfl (e_ifp rfl c2 ht (fun h => hf (Int.not_lt.mp h)))
set_option maxRecDepth 20000 in
theorem r_61_4 {d : Nat} {x1 : Int} {σ : Mem} {n : Nat} {Q : Pst} (ht : (σ 50 3) ≤ x1 → EV d 61 32 [(18, 50), (0, x1)] [] σ n Q) (hf : x1 < (σ 50 3) → EV d 61 12 [(18, 50), (0, x1)] [] σ n Q) : EV d 61 4 [(18, 50), (0, x1)] [] σ n Q := e_load rfl rfl rfl (e_load rfl rfl rfl (e_getf rfl rfl rfl (by decide) (e_icp rfl c3 ht (fun h => hf (Int.not_le.mp h)))))
set_option maxRecDepth 20000 in
theorem r_61_12 {d : Nat} {x1 : Int} {σ : Mem} {n : Nat} {Q : Pst} (ht : 600 ≤ x1 → EV d 61 32 [(18, 50), (0, x1)] [] σ n Q) (hf : x1 < 600 → EV d 61 19 [(18, 50), (0, x1)] [] σ n Q) : EV d 61 12 [(18, 50), (0, x1)] [] σ n Q := e_load rfl rfl rfl (e_const rfl (e_icp rfl c3 ht (fun h => hf (Int.not_le.mp h))))
set_option maxRecDepth 20000 in
theorem r_61_19 {d : Nat} {x1 : Int} {σ : Mem} {n : Nat} {Q : Pst} (hG : GR σ) (h0 : 0 ≤ x1 ∧ x1 < 600) (k : Q (some (0, (Zand (σ 51 x1) 255))) σ n) : EV d 61 19 [(18, 50), (0, x1)] [] σ n Q := e_load rfl rfl rfl (e_getg rfl rfl rfl (by decide) (g_50_0 hG) (e_load rfl rfl rfl (e_ald rfl rfl (by decide) h0 (e_const rfl (e_bin rfl rfl (e_goto rfl (ev_ret rfl (by decide) rfl k)))))))
set_option maxRecDepth 20000 in
theorem r_61_32 {d : Nat} {x1 : Int} {σ : Mem} {n : Nat} {Q : Pst} (k : Q (some (0, (-1))) σ n) : EV d 61 32 [(18, 50), (0, x1)] [] σ n Q := e_const rfl (ev_ret rfl (by decide) rfl k)
-- 62 HearingDesk$Tape.blame(II)V loops at []
set_option maxRecDepth 20000 in
theorem r_62_0 {d : Nat} {x1 : Int} {x2 : Int} {σ : Mem} {n : Nat} {Q : Pst} (ht : ¬ (σ 50 2) = 0 → EV d 62 16 [(18, 50), (0, x1), (0, x2)] [] σ n Q) (hf : (σ 50 2) = 0 → EV d 62 7 [(18, 50), (0, x1), (0, x2)] [] σ n Q) : EV d 62 0 [(18, 50), (0, x1), (0, x2)] [] σ n Q := e_load rfl rfl rfl (e_getf rfl rfl rfl (by decide) (e_ifp rfl c1 ht (fun h => hf (Decidable.not_not.mp h))))
set_option maxRecDepth 20000 in
theorem r_62_7 {d : Nat} {x1 : Int} {x2 : Int} {σ : Mem} {n : Nat} {Q : Pst} (k : Q none (wrM σ 50 2 (Zadd x1 (Zmul 4 x2))) n) : EV d 62 7 [(18, 50), (0, x1), (0, x2)] [] σ n Q := e_load rfl rfl rfl (e_load rfl rfl rfl (e_const rfl (e_load rfl rfl rfl (e_bin rfl rfl (e_bin rfl rfl (e_putf rfl rfl rfl (by decide) (ev_ret rfl (by decide) rfl k)))))))
set_option maxRecDepth 20000 in
theorem r_62_16 {d : Nat} {x1 : Int} {x2 : Int} {σ : Mem} {n : Nat} {Q : Pst} (k : Q none σ n) : EV d 62 16 [(18, 50), (0, x1), (0, x2)] [] σ n Q := ev_ret rfl (by decide) rfl k
-- 63 HearingDesk$Tape.isDigit(I)Z loops at []
set_option maxRecDepth 20000 in
theorem r_63_0 {d : Nat} {x0 : Int} {σ : Mem} {n : Nat} {Q : Pst} (k : EVM d 114 [(0, x0), (0, 48), (0, 57)] σ n (fun r σ1 n1 => EV (d + 1) 63 8 [(0, x0)] (r.toList ++ []) σ1 n1 Q)) : EV (d + 1) 63 0 [(0, x0)] [] σ n Q := e_load rfl rfl rfl (e_const rfl (e_const rfl (ev_call rfl ⟨Nat.le_of_ble_eq_true rfl, Nat.le_of_ble_eq_true rfl, rfl⟩ k)))
set_option maxRecDepth 20000 in
theorem r_63_8 {d : Nat} {x0 : Int} {y0 : Int} {σ : Mem} {n : Nat} {Q : Pst} (h0 : y0 = 0 ∨ y0 = 1) (k : Q (some (0, y0)) σ n) : EV d 63 8 [(0, x0)] [(0, y0)] σ n Q := ev_ret rfl (by decide) (if_pos h0) k
-- 64 HearingDesk$Tape.isLetter(I)Z loops at []
set_option maxRecDepth 20000 in
theorem r_64_0 {d : Nat} {x0 : Int} {σ : Mem} {n : Nat} {Q : Pst} (k : EVM d 114 [(0, x0), (0, 97), (0, 122)] σ n (fun r σ1 n1 => EV (d + 1) 64 8 [(0, x0)] (r.toList ++ []) σ1 n1 Q)) : EV (d + 1) 64 0 [(0, x0)] [] σ n Q := e_load rfl rfl rfl (e_const rfl (e_const rfl (ev_call rfl ⟨Nat.le_of_ble_eq_true rfl, Nat.le_of_ble_eq_true rfl, rfl⟩ k)))
set_option maxRecDepth 20000 in
theorem r_64_8 {d : Nat} {x0 : Int} {y0 : Int} {σ : Mem} {n : Nat} {Q : Pst} (h0 : y0 = 0 ∨ y0 = 1) (k : Q (some (0, y0)) σ n) : EV d 64 8 [(0, x0)] [(0, y0)] σ n Q := ev_ret rfl (by decide) (if_pos h0) k
-- 65 HearingDesk$Tape.wordOf(I)Ljava/lang/String; loops at []
set_option maxRecDepth 20000 in
theorem r_65_0 {d : Nat} {x0 : Int} {σ : Mem} {n : Nat} {Q : Pst} (k : EV d 65 (([(0, 36), (1, 39), (2, 42), (3, 45), (4, 48)].lookup x0).getD 51) [(0, x0)] [] σ n Q) : EV d 65 0 [(0, x0)] [] σ n Q := e_load rfl rfl rfl (e_switch rfl k)
set_option maxRecDepth 20000 in
theorem r_65_36 {d : Nat} {x0 : Int} {σ : Mem} {n : Nat} {Q : Pst} (k : Q (some (3, 1)) σ n) : EV d 65 36 [(0, x0)] [] σ n Q := e_str rfl (ev_ret rfl (by decide) rfl k)
set_option maxRecDepth 20000 in
theorem r_65_39 {d : Nat} {x0 : Int} {σ : Mem} {n : Nat} {Q : Pst} (k : Q (some (3, 2)) σ n) : EV d 65 39 [(0, x0)] [] σ n Q := e_str rfl (ev_ret rfl (by decide) rfl k)
set_option maxRecDepth 20000 in
theorem r_65_42 {d : Nat} {x0 : Int} {σ : Mem} {n : Nat} {Q : Pst} (k : Q (some (3, 3)) σ n) : EV d 65 42 [(0, x0)] [] σ n Q := e_str rfl (ev_ret rfl (by decide) rfl k)
set_option maxRecDepth 20000 in
theorem r_65_45 {d : Nat} {x0 : Int} {σ : Mem} {n : Nat} {Q : Pst} (k : Q (some (3, 4)) σ n) : EV d 65 45 [(0, x0)] [] σ n Q := e_str rfl (ev_ret rfl (by decide) rfl k)
set_option maxRecDepth 20000 in
theorem r_65_48 {d : Nat} {x0 : Int} {σ : Mem} {n : Nat} {Q : Pst} (k : Q (some (3, 5)) σ n) : EV d 65 48 [(0, x0)] [] σ n Q := e_str rfl (ev_ret rfl (by decide) rfl k)
set_option maxRecDepth 20000 in
theorem r_65_51 {d : Nat} {x0 : Int} {σ : Mem} {n : Nat} {Q : Pst} (k : Q (some (3, 6)) σ n) : EV d 65 51 [(0, x0)] [] σ n Q := e_str rfl (ev_ret rfl (by decide) rfl k)
-- 66 HearingDesk$Tape.lowest(I)I loops at []
set_option maxRecDepth 20000 in
theorem r_66_0 {d : Nat} {x0 : Int} {σ : Mem} {n : Nat} {Q : Pst} (ht : x0 = 2 → EV d 66 10 [(0, x0)] [] σ n Q) (hf : ¬ x0 = 2 → EV d 66 5 [(0, x0)] [] σ n Q) : EV d 66 0 [(0, x0)] [] σ n Q := e_load rfl rfl rfl (e_const rfl (e_icp rfl c0 ht (hf)))
set_option maxRecDepth 20000 in
theorem r_66_5 {d : Nat} {x0 : Int} {σ : Mem} {n : Nat} {Q : Pst} (ht : ¬ x0 = 3 → EV d 66 15 [(0, x0)] [] σ n Q) (hf : x0 = 3 → EV d 66 10 [(0, x0)] [] σ n Q) : EV d 66 5 [(0, x0)] [] σ n Q := e_load rfl rfl rfl (e_const rfl (e_icp rfl c1 ht (fun h => hf (Decidable.not_not.mp h))))
set_option maxRecDepth 20000 in
theorem r_66_10 {d : Nat} {x0 : Int} {σ : Mem} {n : Nat} {Q : Pst} (k : Q (some (0, 50)) σ n) : EV d 66 10 [(0, x0)] [] σ n Q := e_const rfl (e_goto rfl (ev_ret rfl (by decide) rfl k))
set_option maxRecDepth 20000 in
theorem r_66_15 {d : Nat} {x0 : Int} {σ : Mem} {n : Nat} {Q : Pst} (k : Q (some (0, 0)) σ n) : EV d 66 15 [(0, x0)] [] σ n Q := e_const rfl (ev_ret rfl (by decide) rfl k)
-- 67 HearingDesk$Tape.highest(I)I loops at []
set_option maxRecDepth 20000 in
theorem r_67_0 {d : Nat} {x0 : Int} {σ : Mem} {n : Nat} {Q : Pst} (k : EV d 67 (([(0, 36), (1, 40), (2, 43), (3, 43), (4, 47)].lookup x0).getD 51) [(0, x0)] [] σ n Q) : EV d 67 0 [(0, x0)] [] σ n Q := e_load rfl rfl rfl (e_switch rfl k)
set_option maxRecDepth 20000 in
theorem r_67_36 {d : Nat} {x0 : Int} {σ : Mem} {n : Nat} {Q : Pst} (k : Q (some (0, 480)) σ n) : EV d 67 36 [(0, x0)] [] σ n Q := e_const rfl (ev_ret rfl (by decide) rfl k)
set_option maxRecDepth 20000 in
theorem r_67_40 {d : Nat} {x0 : Int} {σ : Mem} {n : Nat} {Q : Pst} (k : Q (some (0, 100)) σ n) : EV d 67 40 [(0, x0)] [] σ n Q := e_const rfl (ev_ret rfl (by decide) rfl k)
set_option maxRecDepth 20000 in
theorem r_67_43 {d : Nat} {x0 : Int} {σ : Mem} {n : Nat} {Q : Pst} (k : Q (some (0, 300)) σ n) : EV d 67 43 [(0, x0)] [] σ n Q := e_const rfl (ev_ret rfl (by decide) rfl k)
set_option maxRecDepth 20000 in
theorem r_67_47 {d : Nat} {x0 : Int} {σ : Mem} {n : Nat} {Q : Pst} (k : Q (some (0, 5000)) σ n) : EV d 67 47 [(0, x0)] [] σ n Q := e_const rfl (ev_ret rfl (by decide) rfl k)
set_option maxRecDepth 20000 in
theorem r_67_51 {d : Nat} {x0 : Int} {σ : Mem} {n : Nat} {Q : Pst} (k : Q (some (0, 1000)) σ n) : EV d 67 51 [(0, x0)] [] σ n Q := e_const rfl (ev_ret rfl (by decide) rfl k)
-- 69 HearingDesk$Teams.find(LHearingDesk$Hearing;LHearingDesk$People;LHearingDesk$Papers;)V loops at [8]
set_option maxRecDepth 20000 in
theorem r16_69_0 {d : Nat} {x1 : Int} {l4 : AV} {σ : Mem} {n : Nat} {Q : Pst} (k : EV d 69 8 [(19, 16), (13, x1), (16, 3), (15, 6), (0, 0)] [] (wrM σ 16 4 0) n Q) : EV d 69 0 [(19, 16), (13, x1), (16, 3), (15, 6), l4] [] σ n Q := e_load rfl rfl rfl (e_const rfl (e_putf rfl rfl rfl (by decide) (e_const rfl (e_store rfl ⟨rfl, Nat.le_of_ble_eq_true rfl, Or.inl rfl⟩ rfl (k)))))
set_option maxRecDepth 20000 in
theorem r16_69_8 {d : Nat} {x1 : Int} {x4 : Int} {σ : Mem} {n : Nat} {Q : Pst} (ht : 5 ≤ x4 → EV d 69 29 [(19, 16), (13, x1), (16, 3), (15, 6), (0, x4)] [] σ n Q) (hf : x4 < 5 → EV d 69 14 [(19, 16), (13, x1), (16, 3), (15, 6), (0, x4)] [] σ n Q) : EV d 69 8 [(19, 16), (13, x1), (16, 3), (15, 6), (0, x4)] [] σ n Q := e_load rfl rfl rfl (e_const rfl (e_icp rfl c3 ht (fun h => hf (Int.not_le.mp h))))
set_option maxRecDepth 20000 in
theorem r16_69_14 {d : Nat} {x1 : Int} {x4 : Int} {σ : Mem} {n : Nat} {Q : Pst} (k : EVM d 74 [(19, 16), (0, x4), (13, x1), (16, 3), (15, 6)] σ n (fun r σ1 n1 => EV (d + 1) 69 23 [(19, 16), (13, x1), (16, 3), (15, 6), (0, x4)] (r.toList ++ []) σ1 n1 Q)) : EV (d + 1) 69 14 [(19, 16), (13, x1), (16, 3), (15, 6), (0, x4)] [] σ n Q := e_load rfl rfl rfl (e_load rfl rfl rfl (e_load rfl rfl rfl (e_load rfl rfl rfl (e_load rfl rfl rfl (ev_call rfl ⟨Nat.le_of_ble_eq_true rfl, Nat.le_of_ble_eq_true rfl, argM_v (by decide) rfl (by decide) rfl⟩ k)))))
set_option maxRecDepth 20000 in
theorem r16_69_23 {d : Nat} {x1 : Int} {x4 : Int} {σ : Mem} {n : Nat} {Q : Pst} (k : EV d 69 8 [(19, 16), (13, x1), (16, 3), (15, 6), (0, (Zadd x4 1))] [] σ n Q) : EV d 69 23 [(19, 16), (13, x1), (16, 3), (15, 6), (0, x4)] [] σ n Q := e_iinc rfl rfl (Or.inl rfl) rfl (e_goto rfl (k))
set_option maxRecDepth 20000 in
theorem r16_69_29 {d : Nat} {x1 : Int} {x4 : Int} {σ : Mem} {n : Nat} {Q : Pst} (h0 : 0 ≤ x1) (k : EVM d 19 [(13, x1)] σ n (fun r σ1 n1 => EV (d + 1) 69 33 [(19, 16), (13, x1), (16, 3), (15, 6), (0, x4)] (r.toList ++ []) σ1 n1 Q)) : EV (d + 1) 69 29 [(19, 16), (13, x1), (16, 3), (15, 6), (0, x4)] [] σ n Q := e_load rfl rfl rfl (ev_call rfl ⟨Nat.le_of_ble_eq_true rfl, Nat.le_of_ble_eq_true rfl, argM_v (by decide) rfl h0 rfl⟩ k)
set_option maxRecDepth 20000 in
theorem r16_69_33 {d : Nat} {x1 : Int} {x4 : Int} {y0 : Int} {σ : Mem} {n : Nat} {Q : Pst} (ht : y0 = 0 → EV d 69 45 [(19, 16), (13, x1), (16, 3), (15, 6), (0, x4)] [] σ n Q) (hf : ¬ y0 = 0 → EV d 69 36 [(19, 16), (13, x1), (16, 3), (15, 6), (0, x4)] [] σ n Q) : EV d 69 33 [(19, 16), (13, x1), (16, 3), (15, 6), (0, x4)] [(0, y0)] σ n Q := e_ifp rfl c0 ht (hf)
set_option maxRecDepth 20000 in
theorem r16_69_36 {d : Nat} {x1 : Int} {x4 : Int} {σ : Mem} {n : Nat} {Q : Pst} (h0 : 0 ≤ x1) (k : EVM d 76 [(19, 16), (0, (σ x1 3))] σ n (fun r σ1 n1 => EV (d + 1) 69 44 [(19, 16), (13, x1), (16, 3), (15, 6), (0, x4)] (r.toList ++ []) σ1 n1 Q)) : EV (d + 1) 69 36 [(19, 16), (13, x1), (16, 3), (15, 6), (0, x4)] [] σ n Q := e_load rfl rfl rfl (e_load rfl rfl rfl (e_getf rfl rfl rfl h0 (ev_call rfl ⟨Nat.le_of_ble_eq_true rfl, Nat.le_of_ble_eq_true rfl, argM_v (by decide) rfl (by decide) rfl⟩ k)))
set_option maxRecDepth 20000 in
theorem r16_69_44 {d : Nat} {x1 : Int} {x4 : Int} {σ : Mem} {n : Nat} {Q : Pst} (k : Q none σ n) : EV d 69 44 [(19, 16), (13, x1), (16, 3), (15, 6), (0, x4)] [] σ n Q := ev_ret rfl (by decide) rfl k
set_option maxRecDepth 20000 in
theorem r16_69_45 {d : Nat} {x1 : Int} {x4 : Int} {σ : Mem} {n : Nat} {Q : Pst} (h0 : 0 ≤ x1) (k : EVM d 77 [(19, 16), (0, (σ x1 3))] σ n (fun r σ1 n1 => EV (d + 1) 69 53 [(19, 16), (13, x1), (16, 3), (15, 6), (0, x4)] (r.toList ++ []) σ1 n1 Q)) : EV (d + 1) 69 45 [(19, 16), (13, x1), (16, 3), (15, 6), (0, x4)] [] σ n Q := e_load rfl rfl rfl (e_load rfl rfl rfl (e_getf rfl rfl rfl h0 (ev_call rfl ⟨Nat.le_of_ble_eq_true rfl, Nat.le_of_ble_eq_true rfl, argM_v (by decide) rfl (by decide) rfl⟩ k)))
set_option maxRecDepth 20000 in
theorem r16_69_53 {d : Nat} {x1 : Int} {x4 : Int} {σ : Mem} {n : Nat} {Q : Pst} (ht : ¬ (σ 16 4) = 0 → EV d 69 68 [(19, 16), (13, x1), (16, 3), (15, 6), (0, x4)] [] σ n Q) (hf : (σ 16 4) = 0 → EV d 69 60 [(19, 16), (13, x1), (16, 3), (15, 6), (0, x4)] [] σ n Q) : EV d 69 53 [(19, 16), (13, x1), (16, 3), (15, 6), (0, x4)] [] σ n Q := e_load rfl rfl rfl (e_getf rfl rfl rfl (by decide) (e_ifp rfl c1 ht (fun h => hf (Decidable.not_not.mp h))))
set_option maxRecDepth 20000 in
theorem r16_69_60 {d : Nat} {x1 : Int} {x4 : Int} {σ : Mem} {n : Nat} {Q : Pst} (h0 : 0 ≤ x1) (k : EVM d 78 [(19, 16), (0, (σ x1 3))] σ n (fun r σ1 n1 => EV (d + 1) 69 68 [(19, 16), (13, x1), (16, 3), (15, 6), (0, x4)] (r.toList ++ []) σ1 n1 Q)) : EV (d + 1) 69 60 [(19, 16), (13, x1), (16, 3), (15, 6), (0, x4)] [] σ n Q := e_load rfl rfl rfl (e_load rfl rfl rfl (e_getf rfl rfl rfl h0 (ev_call rfl ⟨Nat.le_of_ble_eq_true rfl, Nat.le_of_ble_eq_true rfl, argM_v (by decide) rfl (by decide) rfl⟩ k)))
set_option maxRecDepth 20000 in
theorem r16_69_68 {d : Nat} {x1 : Int} {x4 : Int} {σ : Mem} {n : Nat} {Q : Pst} (k : Q none σ n) : EV d 69 68 [(19, 16), (13, x1), (16, 3), (15, 6), (0, x4)] [] σ n Q := ev_ret rfl (by decide) rfl k
-- 69 HearingDesk$Teams.find(LHearingDesk$Hearing;LHearingDesk$People;LHearingDesk$Papers;)V loops at [8]
set_option maxRecDepth 20000 in
theorem r26_69_0 {d : Nat} {x1 : Int} {l4 : AV} {σ : Mem} {n : Nat} {Q : Pst} (k : EV d 69 8 [(19, 26), (13, x1), (16, 3), (15, 6), (0, 0)] [] (wrM σ 26 4 0) n Q) : EV d 69 0 [(19, 26), (13, x1), (16, 3), (15, 6), l4] [] σ n Q := e_load rfl rfl rfl (e_const rfl (e_putf rfl rfl rfl (by decide) (e_const rfl (e_store rfl ⟨rfl, Nat.le_of_ble_eq_true rfl, Or.inl rfl⟩ rfl (k)))))
set_option maxRecDepth 20000 in
theorem r26_69_8 {d : Nat} {x1 : Int} {x4 : Int} {σ : Mem} {n : Nat} {Q : Pst} (ht : 5 ≤ x4 → EV d 69 29 [(19, 26), (13, x1), (16, 3), (15, 6), (0, x4)] [] σ n Q) (hf : x4 < 5 → EV d 69 14 [(19, 26), (13, x1), (16, 3), (15, 6), (0, x4)] [] σ n Q) : EV d 69 8 [(19, 26), (13, x1), (16, 3), (15, 6), (0, x4)] [] σ n Q := e_load rfl rfl rfl (e_const rfl (e_icp rfl c3 ht (fun h => hf (Int.not_le.mp h))))
set_option maxRecDepth 20000 in
theorem r26_69_14 {d : Nat} {x1 : Int} {x4 : Int} {σ : Mem} {n : Nat} {Q : Pst} (k : EVM d 74 [(19, 26), (0, x4), (13, x1), (16, 3), (15, 6)] σ n (fun r σ1 n1 => EV (d + 1) 69 23 [(19, 26), (13, x1), (16, 3), (15, 6), (0, x4)] (r.toList ++ []) σ1 n1 Q)) : EV (d + 1) 69 14 [(19, 26), (13, x1), (16, 3), (15, 6), (0, x4)] [] σ n Q := e_load rfl rfl rfl (e_load rfl rfl rfl (e_load rfl rfl rfl (e_load rfl rfl rfl (e_load rfl rfl rfl (ev_call rfl ⟨Nat.le_of_ble_eq_true rfl, Nat.le_of_ble_eq_true rfl, argM_v (by decide) rfl (by decide) rfl⟩ k)))))
set_option maxRecDepth 20000 in
theorem r26_69_23 {d : Nat} {x1 : Int} {x4 : Int} {σ : Mem} {n : Nat} {Q : Pst} (k : EV d 69 8 [(19, 26), (13, x1), (16, 3), (15, 6), (0, (Zadd x4 1))] [] σ n Q) : EV d 69 23 [(19, 26), (13, x1), (16, 3), (15, 6), (0, x4)] [] σ n Q := e_iinc rfl rfl (Or.inl rfl) rfl (e_goto rfl (k))
set_option maxRecDepth 20000 in
theorem r26_69_29 {d : Nat} {x1 : Int} {x4 : Int} {σ : Mem} {n : Nat} {Q : Pst} (h0 : 0 ≤ x1) (k : EVM d 19 [(13, x1)] σ n (fun r σ1 n1 => EV (d + 1) 69 33 [(19, 26), (13, x1), (16, 3), (15, 6), (0, x4)] (r.toList ++ []) σ1 n1 Q)) : EV (d + 1) 69 29 [(19, 26), (13, x1), (16, 3), (15, 6), (0, x4)] [] σ n Q := e_load rfl rfl rfl (ev_call rfl ⟨Nat.le_of_ble_eq_true rfl, Nat.le_of_ble_eq_true rfl, argM_v (by decide) rfl h0 rfl⟩ k)
set_option maxRecDepth 20000 in
theorem r26_69_33 {d : Nat} {x1 : Int} {x4 : Int} {y0 : Int} {σ : Mem} {n : Nat} {Q : Pst} (ht : y0 = 0 → EV d 69 45 [(19, 26), (13, x1), (16, 3), (15, 6), (0, x4)] [] σ n Q) (hf : ¬ y0 = 0 → EV d 69 36 [(19, 26), (13, x1), (16, 3), (15, 6), (0, x4)] [] σ n Q) : EV d 69 33 [(19, 26), (13, x1), (16, 3), (15, 6), (0, x4)] [(0, y0)] σ n Q := e_ifp rfl c0 ht (hf)
set_option maxRecDepth 20000 in
theorem r26_69_36 {d : Nat} {x1 : Int} {x4 : Int} {σ : Mem} {n : Nat} {Q : Pst} (h0 : 0 ≤ x1) (k : EVM d 76 [(19, 26), (0, (σ x1 3))] σ n (fun r σ1 n1 => EV (d + 1) 69 44 [(19, 26), (13, x1), (16, 3), (15, 6), (0, x4)] (r.toList ++ []) σ1 n1 Q)) : EV (d + 1) 69 36 [(19, 26), (13, x1), (16, 3), (15, 6), (0, x4)] [] σ n Q := e_load rfl rfl rfl (e_load rfl rfl rfl (e_getf rfl rfl rfl h0 (ev_call rfl ⟨Nat.le_of_ble_eq_true rfl, Nat.le_of_ble_eq_true rfl, argM_v (by decide) rfl (by decide) rfl⟩ k)))
set_option maxRecDepth 20000 in
theorem r26_69_44 {d : Nat} {x1 : Int} {x4 : Int} {σ : Mem} {n : Nat} {Q : Pst} (k : Q none σ n) : EV d 69 44 [(19, 26), (13, x1), (16, 3), (15, 6), (0, x4)] [] σ n Q := ev_ret rfl (by decide) rfl k
set_option maxRecDepth 20000 in
theorem r26_69_45 {d : Nat} {x1 : Int} {x4 : Int} {σ : Mem} {n : Nat} {Q : Pst} (h0 : 0 ≤ x1) (k : EVM d 77 [(19, 26), (0, (σ x1 3))] σ n (fun r σ1 n1 => EV (d + 1) 69 53 [(19, 26), (13, x1), (16, 3), (15, 6), (0, x4)] (r.toList ++ []) σ1 n1 Q)) : EV (d + 1) 69 45 [(19, 26), (13, x1), (16, 3), (15, 6), (0, x4)] [] σ n Q := e_load rfl rfl rfl (e_load rfl rfl rfl (e_getf rfl rfl rfl h0 (ev_call rfl ⟨Nat.le_of_ble_eq_true rfl, Nat.le_of_ble_eq_true rfl, argM_v (by decide) rfl (by decide) rfl⟩ k)))
set_option maxRecDepth 20000 in
theorem r26_69_53 {d : Nat} {x1 : Int} {x4 : Int} {σ : Mem} {n : Nat} {Q : Pst} (ht : ¬ (σ 26 4) = 0 → EV d 69 68 [(19, 26), (13, x1), (16, 3), (15, 6), (0, x4)] [] σ n Q) (hf : (σ 26 4) = 0 → EV d 69 60 [(19, 26), (13, x1), (16, 3), (15, 6), (0, x4)] [] σ n Q) : EV d 69 53 [(19, 26), (13, x1), (16, 3), (15, 6), (0, x4)] [] σ n Q := e_load rfl rfl rfl (e_getf rfl rfl rfl (by decide) (e_ifp rfl c1 ht (fun h => hf (Decidable.not_not.mp h))))
set_option maxRecDepth 20000 in
theorem r26_69_60 {d : Nat} {x1 : Int} {x4 : Int} {σ : Mem} {n : Nat} {Q : Pst} (h0 : 0 ≤ x1) (k : EVM d 78 [(19, 26), (0, (σ x1 3))] σ n (fun r σ1 n1 => EV (d + 1) 69 68 [(19, 26), (13, x1), (16, 3), (15, 6), (0, x4)] (r.toList ++ []) σ1 n1 Q)) : EV (d + 1) 69 60 [(19, 26), (13, x1), (16, 3), (15, 6), (0, x4)] [] σ n Q := e_load rfl rfl rfl (e_load rfl rfl rfl (e_getf rfl rfl rfl h0 (ev_call rfl ⟨Nat.le_of_ble_eq_true rfl, Nat.le_of_ble_eq_true rfl, argM_v (by decide) rfl (by decide) rfl⟩ k)))
set_option maxRecDepth 20000 in
theorem r26_69_68 {d : Nat} {x1 : Int} {x4 : Int} {σ : Mem} {n : Nat} {Q : Pst} (k : Q none σ n) : EV d 69 68 [(19, 26), (13, x1), (16, 3), (15, 6), (0, x4)] [] σ n Q := ev_ret rfl (by decide) rfl k
-- 69 HearingDesk$Teams.find(LHearingDesk$Hearing;LHearingDesk$People;LHearingDesk$Papers;)V loops at [8]
set_option maxRecDepth 20000 in
theorem r31_69_0 {d : Nat} {x1 : Int} {l4 : AV} {σ : Mem} {n : Nat} {Q : Pst} (k : EV d 69 8 [(19, 31), (13, x1), (16, 3), (15, 6), (0, 0)] [] (wrM σ 31 4 0) n Q) : EV d 69 0 [(19, 31), (13, x1), (16, 3), (15, 6), l4] [] σ n Q := e_load rfl rfl rfl (e_const rfl (e_putf rfl rfl rfl (by decide) (e_const rfl (e_store rfl ⟨rfl, Nat.le_of_ble_eq_true rfl, Or.inl rfl⟩ rfl (k)))))
set_option maxRecDepth 20000 in
theorem r31_69_8 {d : Nat} {x1 : Int} {x4 : Int} {σ : Mem} {n : Nat} {Q : Pst} (ht : 5 ≤ x4 → EV d 69 29 [(19, 31), (13, x1), (16, 3), (15, 6), (0, x4)] [] σ n Q) (hf : x4 < 5 → EV d 69 14 [(19, 31), (13, x1), (16, 3), (15, 6), (0, x4)] [] σ n Q) : EV d 69 8 [(19, 31), (13, x1), (16, 3), (15, 6), (0, x4)] [] σ n Q := e_load rfl rfl rfl (e_const rfl (e_icp rfl c3 ht (fun h => hf (Int.not_le.mp h))))
set_option maxRecDepth 20000 in
theorem r31_69_14 {d : Nat} {x1 : Int} {x4 : Int} {σ : Mem} {n : Nat} {Q : Pst} (k : EVM d 74 [(19, 31), (0, x4), (13, x1), (16, 3), (15, 6)] σ n (fun r σ1 n1 => EV (d + 1) 69 23 [(19, 31), (13, x1), (16, 3), (15, 6), (0, x4)] (r.toList ++ []) σ1 n1 Q)) : EV (d + 1) 69 14 [(19, 31), (13, x1), (16, 3), (15, 6), (0, x4)] [] σ n Q := e_load rfl rfl rfl (e_load rfl rfl rfl (e_load rfl rfl rfl (e_load rfl rfl rfl (e_load rfl rfl rfl (ev_call rfl ⟨Nat.le_of_ble_eq_true rfl, Nat.le_of_ble_eq_true rfl, argM_v (by decide) rfl (by decide) rfl⟩ k)))))
set_option maxRecDepth 20000 in
theorem r31_69_23 {d : Nat} {x1 : Int} {x4 : Int} {σ : Mem} {n : Nat} {Q : Pst} (k : EV d 69 8 [(19, 31), (13, x1), (16, 3), (15, 6), (0, (Zadd x4 1))] [] σ n Q) : EV d 69 23 [(19, 31), (13, x1), (16, 3), (15, 6), (0, x4)] [] σ n Q := e_iinc rfl rfl (Or.inl rfl) rfl (e_goto rfl (k))
set_option maxRecDepth 20000 in
theorem r31_69_29 {d : Nat} {x1 : Int} {x4 : Int} {σ : Mem} {n : Nat} {Q : Pst} (h0 : 0 ≤ x1) (k : EVM d 19 [(13, x1)] σ n (fun r σ1 n1 => EV (d + 1) 69 33 [(19, 31), (13, x1), (16, 3), (15, 6), (0, x4)] (r.toList ++ []) σ1 n1 Q)) : EV (d + 1) 69 29 [(19, 31), (13, x1), (16, 3), (15, 6), (0, x4)] [] σ n Q := e_load rfl rfl rfl (ev_call rfl ⟨Nat.le_of_ble_eq_true rfl, Nat.le_of_ble_eq_true rfl, argM_v (by decide) rfl h0 rfl⟩ k)
set_option maxRecDepth 20000 in
theorem r31_69_33 {d : Nat} {x1 : Int} {x4 : Int} {y0 : Int} {σ : Mem} {n : Nat} {Q : Pst} (ht : y0 = 0 → EV d 69 45 [(19, 31), (13, x1), (16, 3), (15, 6), (0, x4)] [] σ n Q) (hf : ¬ y0 = 0 → EV d 69 36 [(19, 31), (13, x1), (16, 3), (15, 6), (0, x4)] [] σ n Q) : EV d 69 33 [(19, 31), (13, x1), (16, 3), (15, 6), (0, x4)] [(0, y0)] σ n Q := e_ifp rfl c0 ht (hf)
set_option maxRecDepth 20000 in
theorem r31_69_36 {d : Nat} {x1 : Int} {x4 : Int} {σ : Mem} {n : Nat} {Q : Pst} (h0 : 0 ≤ x1) (k : EVM d 76 [(19, 31), (0, (σ x1 3))] σ n (fun r σ1 n1 => EV (d + 1) 69 44 [(19, 31), (13, x1), (16, 3), (15, 6), (0, x4)] (r.toList ++ []) σ1 n1 Q)) : EV (d + 1) 69 36 [(19, 31), (13, x1), (16, 3), (15, 6), (0, x4)] [] σ n Q := e_load rfl rfl rfl (e_load rfl rfl rfl (e_getf rfl rfl rfl h0 (ev_call rfl ⟨Nat.le_of_ble_eq_true rfl, Nat.le_of_ble_eq_true rfl, argM_v (by decide) rfl (by decide) rfl⟩ k)))
set_option maxRecDepth 20000 in
theorem r31_69_44 {d : Nat} {x1 : Int} {x4 : Int} {σ : Mem} {n : Nat} {Q : Pst} (k : Q none σ n) : EV d 69 44 [(19, 31), (13, x1), (16, 3), (15, 6), (0, x4)] [] σ n Q := ev_ret rfl (by decide) rfl k
set_option maxRecDepth 20000 in
theorem r31_69_45 {d : Nat} {x1 : Int} {x4 : Int} {σ : Mem} {n : Nat} {Q : Pst} (h0 : 0 ≤ x1) (k : EVM d 77 [(19, 31), (0, (σ x1 3))] σ n (fun r σ1 n1 => EV (d + 1) 69 53 [(19, 31), (13, x1), (16, 3), (15, 6), (0, x4)] (r.toList ++ []) σ1 n1 Q)) : EV (d + 1) 69 45 [(19, 31), (13, x1), (16, 3), (15, 6), (0, x4)] [] σ n Q := e_load rfl rfl rfl (e_load rfl rfl rfl (e_getf rfl rfl rfl h0 (ev_call rfl ⟨Nat.le_of_ble_eq_true rfl, Nat.le_of_ble_eq_true rfl, argM_v (by decide) rfl (by decide) rfl⟩ k)))
set_option maxRecDepth 20000 in
theorem r31_69_53 {d : Nat} {x1 : Int} {x4 : Int} {σ : Mem} {n : Nat} {Q : Pst} (ht : ¬ (σ 31 4) = 0 → EV d 69 68 [(19, 31), (13, x1), (16, 3), (15, 6), (0, x4)] [] σ n Q) (hf : (σ 31 4) = 0 → EV d 69 60 [(19, 31), (13, x1), (16, 3), (15, 6), (0, x4)] [] σ n Q) : EV d 69 53 [(19, 31), (13, x1), (16, 3), (15, 6), (0, x4)] [] σ n Q := e_load rfl rfl rfl (e_getf rfl rfl rfl (by decide) (e_ifp rfl c1 ht (fun h => hf (Decidable.not_not.mp h))))
set_option maxRecDepth 20000 in
theorem r31_69_60 {d : Nat} {x1 : Int} {x4 : Int} {σ : Mem} {n : Nat} {Q : Pst} (h0 : 0 ≤ x1) (k : EVM d 78 [(19, 31), (0, (σ x1 3))] σ n (fun r σ1 n1 => EV (d + 1) 69 68 [(19, 31), (13, x1), (16, 3), (15, 6), (0, x4)] (r.toList ++ []) σ1 n1 Q)) : EV (d + 1) 69 60 [(19, 31), (13, x1), (16, 3), (15, 6), (0, x4)] [] σ n Q := e_load rfl rfl rfl (e_load rfl rfl rfl (e_getf rfl rfl rfl h0 (ev_call rfl ⟨Nat.le_of_ble_eq_true rfl, Nat.le_of_ble_eq_true rfl, argM_v (by decide) rfl (by decide) rfl⟩ k)))
set_option maxRecDepth 20000 in
theorem r31_69_68 {d : Nat} {x1 : Int} {x4 : Int} {σ : Mem} {n : Nat} {Q : Pst} (k : Q none σ n) : EV d 69 68 [(19, 31), (13, x1), (16, 3), (15, 6), (0, x4)] [] σ n Q := ev_ret rfl (by decide) rfl k
-- 69 HearingDesk$Teams.find(LHearingDesk$Hearing;LHearingDesk$People;LHearingDesk$Papers;)V loops at [8]
set_option maxRecDepth 20000 in
theorem r36_69_0 {d : Nat} {x1 : Int} {l4 : AV} {σ : Mem} {n : Nat} {Q : Pst} (k : EV d 69 8 [(19, 36), (13, x1), (16, 3), (15, 6), (0, 0)] [] (wrM σ 36 4 0) n Q) : EV d 69 0 [(19, 36), (13, x1), (16, 3), (15, 6), l4] [] σ n Q := e_load rfl rfl rfl (e_const rfl (e_putf rfl rfl rfl (by decide) (e_const rfl (e_store rfl ⟨rfl, Nat.le_of_ble_eq_true rfl, Or.inl rfl⟩ rfl (k)))))
set_option maxRecDepth 20000 in
theorem r36_69_8 {d : Nat} {x1 : Int} {x4 : Int} {σ : Mem} {n : Nat} {Q : Pst} (ht : 5 ≤ x4 → EV d 69 29 [(19, 36), (13, x1), (16, 3), (15, 6), (0, x4)] [] σ n Q) (hf : x4 < 5 → EV d 69 14 [(19, 36), (13, x1), (16, 3), (15, 6), (0, x4)] [] σ n Q) : EV d 69 8 [(19, 36), (13, x1), (16, 3), (15, 6), (0, x4)] [] σ n Q := e_load rfl rfl rfl (e_const rfl (e_icp rfl c3 ht (fun h => hf (Int.not_le.mp h))))
set_option maxRecDepth 20000 in
theorem r36_69_14 {d : Nat} {x1 : Int} {x4 : Int} {σ : Mem} {n : Nat} {Q : Pst} (k : EVM d 74 [(19, 36), (0, x4), (13, x1), (16, 3), (15, 6)] σ n (fun r σ1 n1 => EV (d + 1) 69 23 [(19, 36), (13, x1), (16, 3), (15, 6), (0, x4)] (r.toList ++ []) σ1 n1 Q)) : EV (d + 1) 69 14 [(19, 36), (13, x1), (16, 3), (15, 6), (0, x4)] [] σ n Q := e_load rfl rfl rfl (e_load rfl rfl rfl (e_load rfl rfl rfl (e_load rfl rfl rfl (e_load rfl rfl rfl (ev_call rfl ⟨Nat.le_of_ble_eq_true rfl, Nat.le_of_ble_eq_true rfl, argM_v (by decide) rfl (by decide) rfl⟩ k)))))
set_option maxRecDepth 20000 in
theorem r36_69_23 {d : Nat} {x1 : Int} {x4 : Int} {σ : Mem} {n : Nat} {Q : Pst} (k : EV d 69 8 [(19, 36), (13, x1), (16, 3), (15, 6), (0, (Zadd x4 1))] [] σ n Q) : EV d 69 23 [(19, 36), (13, x1), (16, 3), (15, 6), (0, x4)] [] σ n Q := e_iinc rfl rfl (Or.inl rfl) rfl (e_goto rfl (k))
set_option maxRecDepth 20000 in
theorem r36_69_29 {d : Nat} {x1 : Int} {x4 : Int} {σ : Mem} {n : Nat} {Q : Pst} (h0 : 0 ≤ x1) (k : EVM d 19 [(13, x1)] σ n (fun r σ1 n1 => EV (d + 1) 69 33 [(19, 36), (13, x1), (16, 3), (15, 6), (0, x4)] (r.toList ++ []) σ1 n1 Q)) : EV (d + 1) 69 29 [(19, 36), (13, x1), (16, 3), (15, 6), (0, x4)] [] σ n Q := e_load rfl rfl rfl (ev_call rfl ⟨Nat.le_of_ble_eq_true rfl, Nat.le_of_ble_eq_true rfl, argM_v (by decide) rfl h0 rfl⟩ k)
set_option maxRecDepth 20000 in
theorem r36_69_33 {d : Nat} {x1 : Int} {x4 : Int} {y0 : Int} {σ : Mem} {n : Nat} {Q : Pst} (ht : y0 = 0 → EV d 69 45 [(19, 36), (13, x1), (16, 3), (15, 6), (0, x4)] [] σ n Q) (hf : ¬ y0 = 0 → EV d 69 36 [(19, 36), (13, x1), (16, 3), (15, 6), (0, x4)] [] σ n Q) : EV d 69 33 [(19, 36), (13, x1), (16, 3), (15, 6), (0, x4)] [(0, y0)] σ n Q := e_ifp rfl c0 ht (hf)
set_option maxRecDepth 20000 in
theorem r36_69_36 {d : Nat} {x1 : Int} {x4 : Int} {σ : Mem} {n : Nat} {Q : Pst} (h0 : 0 ≤ x1) (k : EVM d 76 [(19, 36), (0, (σ x1 3))] σ n (fun r σ1 n1 => EV (d + 1) 69 44 [(19, 36), (13, x1), (16, 3), (15, 6), (0, x4)] (r.toList ++ []) σ1 n1 Q)) : EV (d + 1) 69 36 [(19, 36), (13, x1), (16, 3), (15, 6), (0, x4)] [] σ n Q := e_load rfl rfl rfl (e_load rfl rfl rfl (e_getf rfl rfl rfl h0 (ev_call rfl ⟨Nat.le_of_ble_eq_true rfl, Nat.le_of_ble_eq_true rfl, argM_v (by decide) rfl (by decide) rfl⟩ k)))
set_option maxRecDepth 20000 in
theorem r36_69_44 {d : Nat} {x1 : Int} {x4 : Int} {σ : Mem} {n : Nat} {Q : Pst} (k : Q none σ n) : EV d 69 44 [(19, 36), (13, x1), (16, 3), (15, 6), (0, x4)] [] σ n Q := ev_ret rfl (by decide) rfl k
set_option maxRecDepth 20000 in
theorem r36_69_45 {d : Nat} {x1 : Int} {x4 : Int} {σ : Mem} {n : Nat} {Q : Pst} (h0 : 0 ≤ x1) (k : EVM d 77 [(19, 36), (0, (σ x1 3))] σ n (fun r σ1 n1 => EV (d + 1) 69 53 [(19, 36), (13, x1), (16, 3), (15, 6), (0, x4)] (r.toList ++ []) σ1 n1 Q)) : EV (d + 1) 69 45 [(19, 36), (13, x1), (16, 3), (15, 6), (0, x4)] [] σ n Q := e_load rfl rfl rfl (e_load rfl rfl rfl (e_getf rfl rfl rfl h0 (ev_call rfl ⟨Nat.le_of_ble_eq_true rfl, Nat.le_of_ble_eq_true rfl, argM_v (by decide) rfl (by decide) rfl⟩ k)))
set_option maxRecDepth 20000 in
theorem r36_69_53 {d : Nat} {x1 : Int} {x4 : Int} {σ : Mem} {n : Nat} {Q : Pst} (ht : ¬ (σ 36 4) = 0 → EV d 69 68 [(19, 36), (13, x1), (16, 3), (15, 6), (0, x4)] [] σ n Q) (hf : (σ 36 4) = 0 → EV d 69 60 [(19, 36), (13, x1), (16, 3), (15, 6), (0, x4)] [] σ n Q) : EV d 69 53 [(19, 36), (13, x1), (16, 3), (15, 6), (0, x4)] [] σ n Q := e_load rfl rfl rfl (e_getf rfl rfl rfl (by decide) (e_ifp rfl c1 ht (fun h => hf (Decidable.not_not.mp h))))
set_option maxRecDepth 20000 in
theorem r36_69_60 {d : Nat} {x1 : Int} {x4 : Int} {σ : Mem} {n : Nat} {Q : Pst} (h0 : 0 ≤ x1) (k : EVM d 78 [(19, 36), (0, (σ x1 3))] σ n (fun r σ1 n1 => EV (d + 1) 69 68 [(19, 36), (13, x1), (16, 3), (15, 6), (0, x4)] (r.toList ++ []) σ1 n1 Q)) : EV (d + 1) 69 60 [(19, 36), (13, x1), (16, 3), (15, 6), (0, x4)] [] σ n Q := e_load rfl rfl rfl (e_load rfl rfl rfl (e_getf rfl rfl rfl h0 (ev_call rfl ⟨Nat.le_of_ble_eq_true rfl, Nat.le_of_ble_eq_true rfl, argM_v (by decide) rfl (by decide) rfl⟩ k)))
set_option maxRecDepth 20000 in
theorem r36_69_68 {d : Nat} {x1 : Int} {x4 : Int} {σ : Mem} {n : Nat} {Q : Pst} (k : Q none σ n) : EV d 69 68 [(19, 36), (13, x1), (16, 3), (15, 6), (0, x4)] [] σ n Q := ev_ret rfl (by decide) rfl k
-- 69 HearingDesk$Teams.find(LHearingDesk$Hearing;LHearingDesk$People;LHearingDesk$Papers;)V loops at [8]
set_option maxRecDepth 20000 in
theorem r41_69_0 {d : Nat} {x1 : Int} {l4 : AV} {σ : Mem} {n : Nat} {Q : Pst} (k : EV d 69 8 [(19, 41), (13, x1), (16, 3), (15, 6), (0, 0)] [] (wrM σ 41 4 0) n Q) : EV d 69 0 [(19, 41), (13, x1), (16, 3), (15, 6), l4] [] σ n Q := e_load rfl rfl rfl (e_const rfl (e_putf rfl rfl rfl (by decide) (e_const rfl (e_store rfl ⟨rfl, Nat.le_of_ble_eq_true rfl, Or.inl rfl⟩ rfl (k)))))
set_option maxRecDepth 20000 in
theorem r41_69_8 {d : Nat} {x1 : Int} {x4 : Int} {σ : Mem} {n : Nat} {Q : Pst} (ht : 5 ≤ x4 → EV d 69 29 [(19, 41), (13, x1), (16, 3), (15, 6), (0, x4)] [] σ n Q) (hf : x4 < 5 → EV d 69 14 [(19, 41), (13, x1), (16, 3), (15, 6), (0, x4)] [] σ n Q) : EV d 69 8 [(19, 41), (13, x1), (16, 3), (15, 6), (0, x4)] [] σ n Q := e_load rfl rfl rfl (e_const rfl (e_icp rfl c3 ht (fun h => hf (Int.not_le.mp h))))
set_option maxRecDepth 20000 in
theorem r41_69_14 {d : Nat} {x1 : Int} {x4 : Int} {σ : Mem} {n : Nat} {Q : Pst} (k : EVM d 74 [(19, 41), (0, x4), (13, x1), (16, 3), (15, 6)] σ n (fun r σ1 n1 => EV (d + 1) 69 23 [(19, 41), (13, x1), (16, 3), (15, 6), (0, x4)] (r.toList ++ []) σ1 n1 Q)) : EV (d + 1) 69 14 [(19, 41), (13, x1), (16, 3), (15, 6), (0, x4)] [] σ n Q := e_load rfl rfl rfl (e_load rfl rfl rfl (e_load rfl rfl rfl (e_load rfl rfl rfl (e_load rfl rfl rfl (ev_call rfl ⟨Nat.le_of_ble_eq_true rfl, Nat.le_of_ble_eq_true rfl, argM_v (by decide) rfl (by decide) rfl⟩ k)))))
set_option maxRecDepth 20000 in
theorem r41_69_23 {d : Nat} {x1 : Int} {x4 : Int} {σ : Mem} {n : Nat} {Q : Pst} (k : EV d 69 8 [(19, 41), (13, x1), (16, 3), (15, 6), (0, (Zadd x4 1))] [] σ n Q) : EV d 69 23 [(19, 41), (13, x1), (16, 3), (15, 6), (0, x4)] [] σ n Q := e_iinc rfl rfl (Or.inl rfl) rfl (e_goto rfl (k))
set_option maxRecDepth 20000 in
theorem r41_69_29 {d : Nat} {x1 : Int} {x4 : Int} {σ : Mem} {n : Nat} {Q : Pst} (h0 : 0 ≤ x1) (k : EVM d 19 [(13, x1)] σ n (fun r σ1 n1 => EV (d + 1) 69 33 [(19, 41), (13, x1), (16, 3), (15, 6), (0, x4)] (r.toList ++ []) σ1 n1 Q)) : EV (d + 1) 69 29 [(19, 41), (13, x1), (16, 3), (15, 6), (0, x4)] [] σ n Q := e_load rfl rfl rfl (ev_call rfl ⟨Nat.le_of_ble_eq_true rfl, Nat.le_of_ble_eq_true rfl, argM_v (by decide) rfl h0 rfl⟩ k)
set_option maxRecDepth 20000 in
theorem r41_69_33 {d : Nat} {x1 : Int} {x4 : Int} {y0 : Int} {σ : Mem} {n : Nat} {Q : Pst} (ht : y0 = 0 → EV d 69 45 [(19, 41), (13, x1), (16, 3), (15, 6), (0, x4)] [] σ n Q) (hf : ¬ y0 = 0 → EV d 69 36 [(19, 41), (13, x1), (16, 3), (15, 6), (0, x4)] [] σ n Q) : EV d 69 33 [(19, 41), (13, x1), (16, 3), (15, 6), (0, x4)] [(0, y0)] σ n Q := e_ifp rfl c0 ht (hf)
set_option maxRecDepth 20000 in
theorem r41_69_36 {d : Nat} {x1 : Int} {x4 : Int} {σ : Mem} {n : Nat} {Q : Pst} (h0 : 0 ≤ x1) (k : EVM d 76 [(19, 41), (0, (σ x1 3))] σ n (fun r σ1 n1 => EV (d + 1) 69 44 [(19, 41), (13, x1), (16, 3), (15, 6), (0, x4)] (r.toList ++ []) σ1 n1 Q)) : EV (d + 1) 69 36 [(19, 41), (13, x1), (16, 3), (15, 6), (0, x4)] [] σ n Q := e_load rfl rfl rfl (e_load rfl rfl rfl (e_getf rfl rfl rfl h0 (ev_call rfl ⟨Nat.le_of_ble_eq_true rfl, Nat.le_of_ble_eq_true rfl, argM_v (by decide) rfl (by decide) rfl⟩ k)))
set_option maxRecDepth 20000 in
theorem r41_69_44 {d : Nat} {x1 : Int} {x4 : Int} {σ : Mem} {n : Nat} {Q : Pst} (k : Q none σ n) : EV d 69 44 [(19, 41), (13, x1), (16, 3), (15, 6), (0, x4)] [] σ n Q := ev_ret rfl (by decide) rfl k
set_option maxRecDepth 20000 in
theorem r41_69_45 {d : Nat} {x1 : Int} {x4 : Int} {σ : Mem} {n : Nat} {Q : Pst} (h0 : 0 ≤ x1) (k : EVM d 77 [(19, 41), (0, (σ x1 3))] σ n (fun r σ1 n1 => EV (d + 1) 69 53 [(19, 41), (13, x1), (16, 3), (15, 6), (0, x4)] (r.toList ++ []) σ1 n1 Q)) : EV (d + 1) 69 45 [(19, 41), (13, x1), (16, 3), (15, 6), (0, x4)] [] σ n Q := e_load rfl rfl rfl (e_load rfl rfl rfl (e_getf rfl rfl rfl h0 (ev_call rfl ⟨Nat.le_of_ble_eq_true rfl, Nat.le_of_ble_eq_true rfl, argM_v (by decide) rfl (by decide) rfl⟩ k)))
set_option maxRecDepth 20000 in
theorem r41_69_53 {d : Nat} {x1 : Int} {x4 : Int} {σ : Mem} {n : Nat} {Q : Pst} (ht : ¬ (σ 41 4) = 0 → EV d 69 68 [(19, 41), (13, x1), (16, 3), (15, 6), (0, x4)] [] σ n Q) (hf : (σ 41 4) = 0 → EV d 69 60 [(19, 41), (13, x1), (16, 3), (15, 6), (0, x4)] [] σ n Q) : EV d 69 53 [(19, 41), (13, x1), (16, 3), (15, 6), (0, x4)] [] σ n Q := e_load rfl rfl rfl (e_getf rfl rfl rfl (by decide) (e_ifp rfl c1 ht (fun h => hf (Decidable.not_not.mp h))))
set_option maxRecDepth 20000 in
theorem r41_69_60 {d : Nat} {x1 : Int} {x4 : Int} {σ : Mem} {n : Nat} {Q : Pst} (h0 : 0 ≤ x1) (k : EVM d 78 [(19, 41), (0, (σ x1 3))] σ n (fun r σ1 n1 => EV (d + 1) 69 68 [(19, 41), (13, x1), (16, 3), (15, 6), (0, x4)] (r.toList ++ []) σ1 n1 Q)) : EV (d + 1) 69 60 [(19, 41), (13, x1), (16, 3), (15, 6), (0, x4)] [] σ n Q := e_load rfl rfl rfl (e_load rfl rfl rfl (e_getf rfl rfl rfl h0 (ev_call rfl ⟨Nat.le_of_ble_eq_true rfl, Nat.le_of_ble_eq_true rfl, argM_v (by decide) rfl (by decide) rfl⟩ k)))
set_option maxRecDepth 20000 in
theorem r41_69_68 {d : Nat} {x1 : Int} {x4 : Int} {σ : Mem} {n : Nat} {Q : Pst} (k : Q none σ n) : EV d 69 68 [(19, 41), (13, x1), (16, 3), (15, 6), (0, x4)] [] σ n Q := ev_ret rfl (by decide) rfl k
-- 70 HearingDesk$Teams.firstOf(I)I loops at []
set_option maxRecDepth 20000 in
theorem r16_70_0 {d : Nat} {x1 : Int} {σ : Mem} {n : Nat} {Q : Pst} (k : EVM d 73 [(19, 16), (0, x1)] σ n (fun r σ1 n1 => EV (d + 1) 70 5 [(19, 16), (0, x1)] (r.toList ++ []) σ1 n1 Q)) : EV (d + 1) 70 0 [(19, 16), (0, x1)] [] σ n Q := e_load rfl rfl rfl (e_load rfl rfl rfl (ev_call rfl ⟨Nat.le_of_ble_eq_true rfl, Nat.le_of_ble_eq_true rfl, argM_v (by decide) rfl (by decide) rfl⟩ k))
set_option maxRecDepth 20000 in
theorem r16_70_5 {d : Nat} {x1 : Int} {y0 : Int} {σ : Mem} {n : Nat} {Q : Pst} (ht : y0 = 0 → EV d 70 17 [(19, 16), (0, x1)] [] σ n Q) (hf : ¬ y0 = 0 → EV d 70 8 [(19, 16), (0, x1)] [] σ n Q) : EV d 70 5 [(19, 16), (0, x1)] [(0, y0)] σ n Q := e_ifp rfl c0 ht (hf)
set_option maxRecDepth 20000 in
theorem r16_70_8 {d : Nat} {x1 : Int} {σ : Mem} {n : Nat} {Q : Pst} (hG : GR σ) (h0 : 0 ≤ x1 ∧ x1 < 20) (k : Q (some (0, (σ 17 x1))) σ n) : EV d 70 8 [(19, 16), (0, x1)] [] σ n Q := e_load rfl rfl rfl (e_getg rfl rfl rfl (by decide) (g_16_0 hG) (e_load rfl rfl rfl (e_ald rfl rfl (by decide) h0 (e_goto rfl (ev_ret rfl (by decide) rfl k)))))
set_option maxRecDepth 20000 in
theorem r16_70_17 {d : Nat} {x1 : Int} {σ : Mem} {n : Nat} {Q : Pst} (k : Q (some (0, (-1))) σ n) : EV d 70 17 [(19, 16), (0, x1)] [] σ n Q := e_const rfl (ev_ret rfl (by decide) rfl k)
-- 70 HearingDesk$Teams.firstOf(I)I loops at []
set_option maxRecDepth 20000 in
theorem r26_70_0 {d : Nat} {x1 : Int} {σ : Mem} {n : Nat} {Q : Pst} (k : EVM d 73 [(19, 26), (0, x1)] σ n (fun r σ1 n1 => EV (d + 1) 70 5 [(19, 26), (0, x1)] (r.toList ++ []) σ1 n1 Q)) : EV (d + 1) 70 0 [(19, 26), (0, x1)] [] σ n Q := e_load rfl rfl rfl (e_load rfl rfl rfl (ev_call rfl ⟨Nat.le_of_ble_eq_true rfl, Nat.le_of_ble_eq_true rfl, argM_v (by decide) rfl (by decide) rfl⟩ k))
set_option maxRecDepth 20000 in
theorem r26_70_5 {d : Nat} {x1 : Int} {y0 : Int} {σ : Mem} {n : Nat} {Q : Pst} (ht : y0 = 0 → EV d 70 17 [(19, 26), (0, x1)] [] σ n Q) (hf : ¬ y0 = 0 → EV d 70 8 [(19, 26), (0, x1)] [] σ n Q) : EV d 70 5 [(19, 26), (0, x1)] [(0, y0)] σ n Q := e_ifp rfl c0 ht (hf)
set_option maxRecDepth 20000 in
theorem r26_70_8 {d : Nat} {x1 : Int} {σ : Mem} {n : Nat} {Q : Pst} (hG : GR σ) (h0 : 0 ≤ x1 ∧ x1 < 20) (k : Q (some (0, (σ 27 x1))) σ n) : EV d 70 8 [(19, 26), (0, x1)] [] σ n Q := e_load rfl rfl rfl (e_getg rfl rfl rfl (by decide) (g_26_0 hG) (e_load rfl rfl rfl (e_ald rfl rfl (by decide) h0 (e_goto rfl (ev_ret rfl (by decide) rfl k)))))
set_option maxRecDepth 20000 in
theorem r26_70_17 {d : Nat} {x1 : Int} {σ : Mem} {n : Nat} {Q : Pst} (k : Q (some (0, (-1))) σ n) : EV d 70 17 [(19, 26), (0, x1)] [] σ n Q := e_const rfl (ev_ret rfl (by decide) rfl k)
-- 70 HearingDesk$Teams.firstOf(I)I loops at []
set_option maxRecDepth 20000 in
theorem r31_70_0 {d : Nat} {x1 : Int} {σ : Mem} {n : Nat} {Q : Pst} (k : EVM d 73 [(19, 31), (0, x1)] σ n (fun r σ1 n1 => EV (d + 1) 70 5 [(19, 31), (0, x1)] (r.toList ++ []) σ1 n1 Q)) : EV (d + 1) 70 0 [(19, 31), (0, x1)] [] σ n Q := e_load rfl rfl rfl (e_load rfl rfl rfl (ev_call rfl ⟨Nat.le_of_ble_eq_true rfl, Nat.le_of_ble_eq_true rfl, argM_v (by decide) rfl (by decide) rfl⟩ k))
set_option maxRecDepth 20000 in
theorem r31_70_5 {d : Nat} {x1 : Int} {y0 : Int} {σ : Mem} {n : Nat} {Q : Pst} (ht : y0 = 0 → EV d 70 17 [(19, 31), (0, x1)] [] σ n Q) (hf : ¬ y0 = 0 → EV d 70 8 [(19, 31), (0, x1)] [] σ n Q) : EV d 70 5 [(19, 31), (0, x1)] [(0, y0)] σ n Q := e_ifp rfl c0 ht (hf)
set_option maxRecDepth 20000 in
theorem r31_70_8 {d : Nat} {x1 : Int} {σ : Mem} {n : Nat} {Q : Pst} (hG : GR σ) (h0 : 0 ≤ x1 ∧ x1 < 20) (k : Q (some (0, (σ 32 x1))) σ n) : EV d 70 8 [(19, 31), (0, x1)] [] σ n Q := e_load rfl rfl rfl (e_getg rfl rfl rfl (by decide) (g_31_0 hG) (e_load rfl rfl rfl (e_ald rfl rfl (by decide) h0 (e_goto rfl (ev_ret rfl (by decide) rfl k)))))
set_option maxRecDepth 20000 in
theorem r31_70_17 {d : Nat} {x1 : Int} {σ : Mem} {n : Nat} {Q : Pst} (k : Q (some (0, (-1))) σ n) : EV d 70 17 [(19, 31), (0, x1)] [] σ n Q := e_const rfl (ev_ret rfl (by decide) rfl k)
-- 70 HearingDesk$Teams.firstOf(I)I loops at []
set_option maxRecDepth 20000 in
theorem r36_70_0 {d : Nat} {x1 : Int} {σ : Mem} {n : Nat} {Q : Pst} (k : EVM d 73 [(19, 36), (0, x1)] σ n (fun r σ1 n1 => EV (d + 1) 70 5 [(19, 36), (0, x1)] (r.toList ++ []) σ1 n1 Q)) : EV (d + 1) 70 0 [(19, 36), (0, x1)] [] σ n Q := e_load rfl rfl rfl (e_load rfl rfl rfl (ev_call rfl ⟨Nat.le_of_ble_eq_true rfl, Nat.le_of_ble_eq_true rfl, argM_v (by decide) rfl (by decide) rfl⟩ k))
set_option maxRecDepth 20000 in
theorem r36_70_5 {d : Nat} {x1 : Int} {y0 : Int} {σ : Mem} {n : Nat} {Q : Pst} (ht : y0 = 0 → EV d 70 17 [(19, 36), (0, x1)] [] σ n Q) (hf : ¬ y0 = 0 → EV d 70 8 [(19, 36), (0, x1)] [] σ n Q) : EV d 70 5 [(19, 36), (0, x1)] [(0, y0)] σ n Q := e_ifp rfl c0 ht (hf)
set_option maxRecDepth 20000 in
theorem r36_70_8 {d : Nat} {x1 : Int} {σ : Mem} {n : Nat} {Q : Pst} (hG : GR σ) (h0 : 0 ≤ x1 ∧ x1 < 20) (k : Q (some (0, (σ 37 x1))) σ n) : EV d 70 8 [(19, 36), (0, x1)] [] σ n Q := e_load rfl rfl rfl (e_getg rfl rfl rfl (by decide) (g_36_0 hG) (e_load rfl rfl rfl (e_ald rfl rfl (by decide) h0 (e_goto rfl (ev_ret rfl (by decide) rfl k)))))
set_option maxRecDepth 20000 in
theorem r36_70_17 {d : Nat} {x1 : Int} {σ : Mem} {n : Nat} {Q : Pst} (k : Q (some (0, (-1))) σ n) : EV d 70 17 [(19, 36), (0, x1)] [] σ n Q := e_const rfl (ev_ret rfl (by decide) rfl k)
-- 70 HearingDesk$Teams.firstOf(I)I loops at []
set_option maxRecDepth 20000 in
theorem r41_70_0 {d : Nat} {x1 : Int} {σ : Mem} {n : Nat} {Q : Pst} (k : EVM d 73 [(19, 41), (0, x1)] σ n (fun r σ1 n1 => EV (d + 1) 70 5 [(19, 41), (0, x1)] (r.toList ++ []) σ1 n1 Q)) : EV (d + 1) 70 0 [(19, 41), (0, x1)] [] σ n Q := e_load rfl rfl rfl (e_load rfl rfl rfl (ev_call rfl ⟨Nat.le_of_ble_eq_true rfl, Nat.le_of_ble_eq_true rfl, argM_v (by decide) rfl (by decide) rfl⟩ k))
set_option maxRecDepth 20000 in
theorem r41_70_5 {d : Nat} {x1 : Int} {y0 : Int} {σ : Mem} {n : Nat} {Q : Pst} (ht : y0 = 0 → EV d 70 17 [(19, 41), (0, x1)] [] σ n Q) (hf : ¬ y0 = 0 → EV d 70 8 [(19, 41), (0, x1)] [] σ n Q) : EV d 70 5 [(19, 41), (0, x1)] [(0, y0)] σ n Q := e_ifp rfl c0 ht (hf)
set_option maxRecDepth 20000 in
theorem r41_70_8 {d : Nat} {x1 : Int} {σ : Mem} {n : Nat} {Q : Pst} (hG : GR σ) (h0 : 0 ≤ x1 ∧ x1 < 20) (k : Q (some (0, (σ 42 x1))) σ n) : EV d 70 8 [(19, 41), (0, x1)] [] σ n Q := e_load rfl rfl rfl (e_getg rfl rfl rfl (by decide) (g_41_0 hG) (e_load rfl rfl rfl (e_ald rfl rfl (by decide) h0 (e_goto rfl (ev_ret rfl (by decide) rfl k)))))
set_option maxRecDepth 20000 in
theorem r41_70_17 {d : Nat} {x1 : Int} {σ : Mem} {n : Nat} {Q : Pst} (k : Q (some (0, (-1))) σ n) : EV d 70 17 [(19, 41), (0, x1)] [] σ n Q := e_const rfl (ev_ret rfl (by decide) rfl k)
-- 71 HearingDesk$Teams.secondOf(I)I loops at []
set_option maxRecDepth 20000 in
theorem r16_71_0 {d : Nat} {x1 : Int} {σ : Mem} {n : Nat} {Q : Pst} (k : EVM d 73 [(19, 16), (0, x1)] σ n (fun r σ1 n1 => EV (d + 1) 71 5 [(19, 16), (0, x1)] (r.toList ++ []) σ1 n1 Q)) : EV (d + 1) 71 0 [(19, 16), (0, x1)] [] σ n Q := e_load rfl rfl rfl (e_load rfl rfl rfl (ev_call rfl ⟨Nat.le_of_ble_eq_true rfl, Nat.le_of_ble_eq_true rfl, argM_v (by decide) rfl (by decide) rfl⟩ k))
set_option maxRecDepth 20000 in
theorem r16_71_5 {d : Nat} {x1 : Int} {y0 : Int} {σ : Mem} {n : Nat} {Q : Pst} (ht : y0 = 0 → EV d 71 17 [(19, 16), (0, x1)] [] σ n Q) (hf : ¬ y0 = 0 → EV d 71 8 [(19, 16), (0, x1)] [] σ n Q) : EV d 71 5 [(19, 16), (0, x1)] [(0, y0)] σ n Q := e_ifp rfl c0 ht (hf)
set_option maxRecDepth 20000 in
theorem r16_71_8 {d : Nat} {x1 : Int} {σ : Mem} {n : Nat} {Q : Pst} (hG : GR σ) (h0 : 0 ≤ x1 ∧ x1 < 20) (k : Q (some (0, (σ 18 x1))) σ n) : EV d 71 8 [(19, 16), (0, x1)] [] σ n Q := e_load rfl rfl rfl (e_getg rfl rfl rfl (by decide) (g_16_1 hG) (e_load rfl rfl rfl (e_ald rfl rfl (by decide) h0 (e_goto rfl (ev_ret rfl (by decide) rfl k)))))
set_option maxRecDepth 20000 in
theorem r16_71_17 {d : Nat} {x1 : Int} {σ : Mem} {n : Nat} {Q : Pst} (k : Q (some (0, (-1))) σ n) : EV d 71 17 [(19, 16), (0, x1)] [] σ n Q := e_const rfl (ev_ret rfl (by decide) rfl k)
-- 71 HearingDesk$Teams.secondOf(I)I loops at []
set_option maxRecDepth 20000 in
theorem r26_71_0 {d : Nat} {x1 : Int} {σ : Mem} {n : Nat} {Q : Pst} (k : EVM d 73 [(19, 26), (0, x1)] σ n (fun r σ1 n1 => EV (d + 1) 71 5 [(19, 26), (0, x1)] (r.toList ++ []) σ1 n1 Q)) : EV (d + 1) 71 0 [(19, 26), (0, x1)] [] σ n Q := e_load rfl rfl rfl (e_load rfl rfl rfl (ev_call rfl ⟨Nat.le_of_ble_eq_true rfl, Nat.le_of_ble_eq_true rfl, argM_v (by decide) rfl (by decide) rfl⟩ k))
set_option maxRecDepth 20000 in
theorem r26_71_5 {d : Nat} {x1 : Int} {y0 : Int} {σ : Mem} {n : Nat} {Q : Pst} (ht : y0 = 0 → EV d 71 17 [(19, 26), (0, x1)] [] σ n Q) (hf : ¬ y0 = 0 → EV d 71 8 [(19, 26), (0, x1)] [] σ n Q) : EV d 71 5 [(19, 26), (0, x1)] [(0, y0)] σ n Q := e_ifp rfl c0 ht (hf)
set_option maxRecDepth 20000 in
theorem r26_71_8 {d : Nat} {x1 : Int} {σ : Mem} {n : Nat} {Q : Pst} (hG : GR σ) (h0 : 0 ≤ x1 ∧ x1 < 20) (k : Q (some (0, (σ 28 x1))) σ n) : EV d 71 8 [(19, 26), (0, x1)] [] σ n Q := e_load rfl rfl rfl (e_getg rfl rfl rfl (by decide) (g_26_1 hG) (e_load rfl rfl rfl (e_ald rfl rfl (by decide) h0 (e_goto rfl (ev_ret rfl (by decide) rfl k)))))
set_option maxRecDepth 20000 in
theorem r26_71_17 {d : Nat} {x1 : Int} {σ : Mem} {n : Nat} {Q : Pst} (k : Q (some (0, (-1))) σ n) : EV d 71 17 [(19, 26), (0, x1)] [] σ n Q := e_const rfl (ev_ret rfl (by decide) rfl k)
-- 71 HearingDesk$Teams.secondOf(I)I loops at []
set_option maxRecDepth 20000 in
theorem r31_71_0 {d : Nat} {x1 : Int} {σ : Mem} {n : Nat} {Q : Pst} (k : EVM d 73 [(19, 31), (0, x1)] σ n (fun r σ1 n1 => EV (d + 1) 71 5 [(19, 31), (0, x1)] (r.toList ++ []) σ1 n1 Q)) : EV (d + 1) 71 0 [(19, 31), (0, x1)] [] σ n Q := e_load rfl rfl rfl (e_load rfl rfl rfl (ev_call rfl ⟨Nat.le_of_ble_eq_true rfl, Nat.le_of_ble_eq_true rfl, argM_v (by decide) rfl (by decide) rfl⟩ k))
set_option maxRecDepth 20000 in
theorem r31_71_5 {d : Nat} {x1 : Int} {y0 : Int} {σ : Mem} {n : Nat} {Q : Pst} (ht : y0 = 0 → EV d 71 17 [(19, 31), (0, x1)] [] σ n Q) (hf : ¬ y0 = 0 → EV d 71 8 [(19, 31), (0, x1)] [] σ n Q) : EV d 71 5 [(19, 31), (0, x1)] [(0, y0)] σ n Q := e_ifp rfl c0 ht (hf)
set_option maxRecDepth 20000 in
theorem r31_71_8 {d : Nat} {x1 : Int} {σ : Mem} {n : Nat} {Q : Pst} (hG : GR σ) (h0 : 0 ≤ x1 ∧ x1 < 20) (k : Q (some (0, (σ 33 x1))) σ n) : EV d 71 8 [(19, 31), (0, x1)] [] σ n Q := e_load rfl rfl rfl (e_getg rfl rfl rfl (by decide) (g_31_1 hG) (e_load rfl rfl rfl (e_ald rfl rfl (by decide) h0 (e_goto rfl (ev_ret rfl (by decide) rfl k)))))
set_option maxRecDepth 20000 in
theorem r31_71_17 {d : Nat} {x1 : Int} {σ : Mem} {n : Nat} {Q : Pst} (k : Q (some (0, (-1))) σ n) : EV d 71 17 [(19, 31), (0, x1)] [] σ n Q := e_const rfl (ev_ret rfl (by decide) rfl k)
-- 71 HearingDesk$Teams.secondOf(I)I loops at []
set_option maxRecDepth 20000 in
theorem r36_71_0 {d : Nat} {x1 : Int} {σ : Mem} {n : Nat} {Q : Pst} (k : EVM d 73 [(19, 36), (0, x1)] σ n (fun r σ1 n1 => EV (d + 1) 71 5 [(19, 36), (0, x1)] (r.toList ++ []) σ1 n1 Q)) : EV (d + 1) 71 0 [(19, 36), (0, x1)] [] σ n Q := e_load rfl rfl rfl (e_load rfl rfl rfl (ev_call rfl ⟨Nat.le_of_ble_eq_true rfl, Nat.le_of_ble_eq_true rfl, argM_v (by decide) rfl (by decide) rfl⟩ k))
set_option maxRecDepth 20000 in
theorem r36_71_5 {d : Nat} {x1 : Int} {y0 : Int} {σ : Mem} {n : Nat} {Q : Pst} (ht : y0 = 0 → EV d 71 17 [(19, 36), (0, x1)] [] σ n Q) (hf : ¬ y0 = 0 → EV d 71 8 [(19, 36), (0, x1)] [] σ n Q) : EV d 71 5 [(19, 36), (0, x1)] [(0, y0)] σ n Q := e_ifp rfl c0 ht (hf)
set_option maxRecDepth 20000 in
theorem r36_71_8 {d : Nat} {x1 : Int} {σ : Mem} {n : Nat} {Q : Pst} (hG : GR σ) (h0 : 0 ≤ x1 ∧ x1 < 20) (k : Q (some (0, (σ 38 x1))) σ n) : EV d 71 8 [(19, 36), (0, x1)] [] σ n Q := e_load rfl rfl rfl (e_getg rfl rfl rfl (by decide) (g_36_1 hG) (e_load rfl rfl rfl (e_ald rfl rfl (by decide) h0 (e_goto rfl (ev_ret rfl (by decide) rfl k)))))
set_option maxRecDepth 20000 in
theorem r36_71_17 {d : Nat} {x1 : Int} {σ : Mem} {n : Nat} {Q : Pst} (k : Q (some (0, (-1))) σ n) : EV d 71 17 [(19, 36), (0, x1)] [] σ n Q := e_const rfl (ev_ret rfl (by decide) rfl k)
-- 71 HearingDesk$Teams.secondOf(I)I loops at []
set_option maxRecDepth 20000 in
theorem r41_71_0 {d : Nat} {x1 : Int} {σ : Mem} {n : Nat} {Q : Pst} (k : EVM d 73 [(19, 41), (0, x1)] σ n (fun r σ1 n1 => EV (d + 1) 71 5 [(19, 41), (0, x1)] (r.toList ++ []) σ1 n1 Q)) : EV (d + 1) 71 0 [(19, 41), (0, x1)] [] σ n Q := e_load rfl rfl rfl (e_load rfl rfl rfl (ev_call rfl ⟨Nat.le_of_ble_eq_true rfl, Nat.le_of_ble_eq_true rfl, argM_v (by decide) rfl (by decide) rfl⟩ k))
set_option maxRecDepth 20000 in
theorem r41_71_5 {d : Nat} {x1 : Int} {y0 : Int} {σ : Mem} {n : Nat} {Q : Pst} (ht : y0 = 0 → EV d 71 17 [(19, 41), (0, x1)] [] σ n Q) (hf : ¬ y0 = 0 → EV d 71 8 [(19, 41), (0, x1)] [] σ n Q) : EV d 71 5 [(19, 41), (0, x1)] [(0, y0)] σ n Q := e_ifp rfl c0 ht (hf)
set_option maxRecDepth 20000 in
theorem r41_71_8 {d : Nat} {x1 : Int} {σ : Mem} {n : Nat} {Q : Pst} (hG : GR σ) (h0 : 0 ≤ x1 ∧ x1 < 20) (k : Q (some (0, (σ 43 x1))) σ n) : EV d 71 8 [(19, 41), (0, x1)] [] σ n Q := e_load rfl rfl rfl (e_getg rfl rfl rfl (by decide) (g_41_1 hG) (e_load rfl rfl rfl (e_ald rfl rfl (by decide) h0 (e_goto rfl (ev_ret rfl (by decide) rfl k)))))
set_option maxRecDepth 20000 in
theorem r41_71_17 {d : Nat} {x1 : Int} {σ : Mem} {n : Nat} {Q : Pst} (k : Q (some (0, (-1))) σ n) : EV d 71 17 [(19, 41), (0, x1)] [] σ n Q := e_const rfl (ev_ret rfl (by decide) rfl k)
-- 72 HearingDesk$Teams.relayOf(I)I loops at []
set_option maxRecDepth 20000 in
theorem r16_72_0 {d : Nat} {x1 : Int} {σ : Mem} {n : Nat} {Q : Pst} (k : EVM d 73 [(19, 16), (0, x1)] σ n (fun r σ1 n1 => EV (d + 1) 72 5 [(19, 16), (0, x1)] (r.toList ++ []) σ1 n1 Q)) : EV (d + 1) 72 0 [(19, 16), (0, x1)] [] σ n Q := e_load rfl rfl rfl (e_load rfl rfl rfl (ev_call rfl ⟨Nat.le_of_ble_eq_true rfl, Nat.le_of_ble_eq_true rfl, argM_v (by decide) rfl (by decide) rfl⟩ k))
set_option maxRecDepth 20000 in
theorem r16_72_5 {d : Nat} {x1 : Int} {y0 : Int} {σ : Mem} {n : Nat} {Q : Pst} (ht : y0 = 0 → EV d 72 17 [(19, 16), (0, x1)] [] σ n Q) (hf : ¬ y0 = 0 → EV d 72 8 [(19, 16), (0, x1)] [] σ n Q) : EV d 72 5 [(19, 16), (0, x1)] [(0, y0)] σ n Q := e_ifp rfl c0 ht (hf)
set_option maxRecDepth 20000 in
theorem r16_72_8 {d : Nat} {x1 : Int} {σ : Mem} {n : Nat} {Q : Pst} (hG : GR σ) (h0 : 0 ≤ x1 ∧ x1 < 20) (k : Q (some (0, (σ 19 x1))) σ n) : EV d 72 8 [(19, 16), (0, x1)] [] σ n Q := e_load rfl rfl rfl (e_getg rfl rfl rfl (by decide) (g_16_2 hG) (e_load rfl rfl rfl (e_ald rfl rfl (by decide) h0 (e_goto rfl (ev_ret rfl (by decide) rfl k)))))
set_option maxRecDepth 20000 in
theorem r16_72_17 {d : Nat} {x1 : Int} {σ : Mem} {n : Nat} {Q : Pst} (k : Q (some (0, (-1))) σ n) : EV d 72 17 [(19, 16), (0, x1)] [] σ n Q := e_const rfl (ev_ret rfl (by decide) rfl k)
-- 72 HearingDesk$Teams.relayOf(I)I loops at []
set_option maxRecDepth 20000 in
theorem r26_72_0 {d : Nat} {x1 : Int} {σ : Mem} {n : Nat} {Q : Pst} (k : EVM d 73 [(19, 26), (0, x1)] σ n (fun r σ1 n1 => EV (d + 1) 72 5 [(19, 26), (0, x1)] (r.toList ++ []) σ1 n1 Q)) : EV (d + 1) 72 0 [(19, 26), (0, x1)] [] σ n Q := e_load rfl rfl rfl (e_load rfl rfl rfl (ev_call rfl ⟨Nat.le_of_ble_eq_true rfl, Nat.le_of_ble_eq_true rfl, argM_v (by decide) rfl (by decide) rfl⟩ k))
set_option maxRecDepth 20000 in
theorem r26_72_5 {d : Nat} {x1 : Int} {y0 : Int} {σ : Mem} {n : Nat} {Q : Pst} (ht : y0 = 0 → EV d 72 17 [(19, 26), (0, x1)] [] σ n Q) (hf : ¬ y0 = 0 → EV d 72 8 [(19, 26), (0, x1)] [] σ n Q) : EV d 72 5 [(19, 26), (0, x1)] [(0, y0)] σ n Q := e_ifp rfl c0 ht (hf)
set_option maxRecDepth 20000 in
theorem r26_72_8 {d : Nat} {x1 : Int} {σ : Mem} {n : Nat} {Q : Pst} (hG : GR σ) (h0 : 0 ≤ x1 ∧ x1 < 20) (k : Q (some (0, (σ 29 x1))) σ n) : EV d 72 8 [(19, 26), (0, x1)] [] σ n Q := e_load rfl rfl rfl (e_getg rfl rfl rfl (by decide) (g_26_2 hG) (e_load rfl rfl rfl (e_ald rfl rfl (by decide) h0 (e_goto rfl (ev_ret rfl (by decide) rfl k)))))
set_option maxRecDepth 20000 in
theorem r26_72_17 {d : Nat} {x1 : Int} {σ : Mem} {n : Nat} {Q : Pst} (k : Q (some (0, (-1))) σ n) : EV d 72 17 [(19, 26), (0, x1)] [] σ n Q := e_const rfl (ev_ret rfl (by decide) rfl k)
-- 72 HearingDesk$Teams.relayOf(I)I loops at []
set_option maxRecDepth 20000 in
theorem r31_72_0 {d : Nat} {x1 : Int} {σ : Mem} {n : Nat} {Q : Pst} (k : EVM d 73 [(19, 31), (0, x1)] σ n (fun r σ1 n1 => EV (d + 1) 72 5 [(19, 31), (0, x1)] (r.toList ++ []) σ1 n1 Q)) : EV (d + 1) 72 0 [(19, 31), (0, x1)] [] σ n Q := e_load rfl rfl rfl (e_load rfl rfl rfl (ev_call rfl ⟨Nat.le_of_ble_eq_true rfl, Nat.le_of_ble_eq_true rfl, argM_v (by decide) rfl (by decide) rfl⟩ k))
set_option maxRecDepth 20000 in
theorem r31_72_5 {d : Nat} {x1 : Int} {y0 : Int} {σ : Mem} {n : Nat} {Q : Pst} (ht : y0 = 0 → EV d 72 17 [(19, 31), (0, x1)] [] σ n Q) (hf : ¬ y0 = 0 → EV d 72 8 [(19, 31), (0, x1)] [] σ n Q) : EV d 72 5 [(19, 31), (0, x1)] [(0, y0)] σ n Q := e_ifp rfl c0 ht (hf)
set_option maxRecDepth 20000 in
theorem r31_72_8 {d : Nat} {x1 : Int} {σ : Mem} {n : Nat} {Q : Pst} (hG : GR σ) (h0 : 0 ≤ x1 ∧ x1 < 20) (k : Q (some (0, (σ 34 x1))) σ n) : EV d 72 8 [(19, 31), (0, x1)] [] σ n Q := e_load rfl rfl rfl (e_getg rfl rfl rfl (by decide) (g_31_2 hG) (e_load rfl rfl rfl (e_ald rfl rfl (by decide) h0 (e_goto rfl (ev_ret rfl (by decide) rfl k)))))
set_option maxRecDepth 20000 in
theorem r31_72_17 {d : Nat} {x1 : Int} {σ : Mem} {n : Nat} {Q : Pst} (k : Q (some (0, (-1))) σ n) : EV d 72 17 [(19, 31), (0, x1)] [] σ n Q := e_const rfl (ev_ret rfl (by decide) rfl k)
-- 72 HearingDesk$Teams.relayOf(I)I loops at []
set_option maxRecDepth 20000 in
theorem r36_72_0 {d : Nat} {x1 : Int} {σ : Mem} {n : Nat} {Q : Pst} (k : EVM d 73 [(19, 36), (0, x1)] σ n (fun r σ1 n1 => EV (d + 1) 72 5 [(19, 36), (0, x1)] (r.toList ++ []) σ1 n1 Q)) : EV (d + 1) 72 0 [(19, 36), (0, x1)] [] σ n Q := e_load rfl rfl rfl (e_load rfl rfl rfl (ev_call rfl ⟨Nat.le_of_ble_eq_true rfl, Nat.le_of_ble_eq_true rfl, argM_v (by decide) rfl (by decide) rfl⟩ k))
set_option maxRecDepth 20000 in
theorem r36_72_5 {d : Nat} {x1 : Int} {y0 : Int} {σ : Mem} {n : Nat} {Q : Pst} (ht : y0 = 0 → EV d 72 17 [(19, 36), (0, x1)] [] σ n Q) (hf : ¬ y0 = 0 → EV d 72 8 [(19, 36), (0, x1)] [] σ n Q) : EV d 72 5 [(19, 36), (0, x1)] [(0, y0)] σ n Q := e_ifp rfl c0 ht (hf)
set_option maxRecDepth 20000 in
theorem r36_72_8 {d : Nat} {x1 : Int} {σ : Mem} {n : Nat} {Q : Pst} (hG : GR σ) (h0 : 0 ≤ x1 ∧ x1 < 20) (k : Q (some (0, (σ 39 x1))) σ n) : EV d 72 8 [(19, 36), (0, x1)] [] σ n Q := e_load rfl rfl rfl (e_getg rfl rfl rfl (by decide) (g_36_2 hG) (e_load rfl rfl rfl (e_ald rfl rfl (by decide) h0 (e_goto rfl (ev_ret rfl (by decide) rfl k)))))
set_option maxRecDepth 20000 in
theorem r36_72_17 {d : Nat} {x1 : Int} {σ : Mem} {n : Nat} {Q : Pst} (k : Q (some (0, (-1))) σ n) : EV d 72 17 [(19, 36), (0, x1)] [] σ n Q := e_const rfl (ev_ret rfl (by decide) rfl k)
-- 72 HearingDesk$Teams.relayOf(I)I loops at []
set_option maxRecDepth 20000 in
theorem r41_72_0 {d : Nat} {x1 : Int} {σ : Mem} {n : Nat} {Q : Pst} (k : EVM d 73 [(19, 41), (0, x1)] σ n (fun r σ1 n1 => EV (d + 1) 72 5 [(19, 41), (0, x1)] (r.toList ++ []) σ1 n1 Q)) : EV (d + 1) 72 0 [(19, 41), (0, x1)] [] σ n Q := e_load rfl rfl rfl (e_load rfl rfl rfl (ev_call rfl ⟨Nat.le_of_ble_eq_true rfl, Nat.le_of_ble_eq_true rfl, argM_v (by decide) rfl (by decide) rfl⟩ k))
set_option maxRecDepth 20000 in
theorem r41_72_5 {d : Nat} {x1 : Int} {y0 : Int} {σ : Mem} {n : Nat} {Q : Pst} (ht : y0 = 0 → EV d 72 17 [(19, 41), (0, x1)] [] σ n Q) (hf : ¬ y0 = 0 → EV d 72 8 [(19, 41), (0, x1)] [] σ n Q) : EV d 72 5 [(19, 41), (0, x1)] [(0, y0)] σ n Q := e_ifp rfl c0 ht (hf)
set_option maxRecDepth 20000 in
theorem r41_72_8 {d : Nat} {x1 : Int} {σ : Mem} {n : Nat} {Q : Pst} (hG : GR σ) (h0 : 0 ≤ x1 ∧ x1 < 20) (k : Q (some (0, (σ 44 x1))) σ n) : EV d 72 8 [(19, 41), (0, x1)] [] σ n Q := e_load rfl rfl rfl (e_getg rfl rfl rfl (by decide) (g_41_2 hG) (e_load rfl rfl rfl (e_ald rfl rfl (by decide) h0 (e_goto rfl (ev_ret rfl (by decide) rfl k)))))
set_option maxRecDepth 20000 in
theorem r41_72_17 {d : Nat} {x1 : Int} {σ : Mem} {n : Nat} {Q : Pst} (k : Q (some (0, (-1))) σ n) : EV d 72 17 [(19, 41), (0, x1)] [] σ n Q := e_const rfl (ev_ret rfl (by decide) rfl k)
-- 73 HearingDesk$Teams.has(I)Z loops at []
set_option maxRecDepth 20000 in
theorem r16_73_0 {d : Nat} {x1 : Int} {σ : Mem} {n : Nat} {Q : Pst} (ht : x1 < 0 → EV d 73 22 [(19, 16), (0, x1)] [] σ n Q) (hf : 0 ≤ x1 → EV d 73 4 [(19, 16), (0, x1)] [] σ n Q) : EV d 73 0 [(19, 16), (0, x1)] [] σ n Q := e_load rfl rfl rfl (e_ifp rfl c2 ht (fun h => hf (Int.not_lt.mp h)))
set_option maxRecDepth 20000 in
theorem r16_73_4 {d : Nat} {x1 : Int} {σ : Mem} {n : Nat} {Q : Pst} (ht : (σ 16 4) ≤ x1 → EV d 73 22 [(19, 16), (0, x1)] [] σ n Q) (hf : x1 < (σ 16 4) → EV d 73 12 [(19, 16), (0, x1)] [] σ n Q) : EV d 73 4 [(19, 16), (0, x1)] [] σ n Q := e_load rfl rfl rfl (e_load rfl rfl rfl (e_getf rfl rfl rfl (by decide) (e_icp rfl c3 ht (fun h => hf (Int.not_le.mp h)))))
set_option maxRecDepth 20000 in
theorem r16_73_12 {d : Nat} {x1 : Int} {σ : Mem} {n : Nat} {Q : Pst} (ht : 20 ≤ x1 → EV d 73 22 [(19, 16), (0, x1)] [] σ n Q) (hf : x1 < 20 → EV d 73 18 [(19, 16), (0, x1)] [] σ n Q) : EV d 73 12 [(19, 16), (0, x1)] [] σ n Q := e_load rfl rfl rfl (e_const rfl (e_icp rfl c3 ht (fun h => hf (Int.not_le.mp h))))
set_option maxRecDepth 20000 in
theorem r16_73_18 {d : Nat} {x1 : Int} {σ : Mem} {n : Nat} {Q : Pst} (k : Q (some (0, 1)) σ n) : EV d 73 18 [(19, 16), (0, x1)] [] σ n Q := e_const rfl (e_goto rfl (ev_ret rfl (by decide) rfl k))
set_option maxRecDepth 20000 in
theorem r16_73_22 {d : Nat} {x1 : Int} {σ : Mem} {n : Nat} {Q : Pst} (k : Q (some (0, 0)) σ n) : EV d 73 22 [(19, 16), (0, x1)] [] σ n Q := e_const rfl (ev_ret rfl (by decide) rfl k)
-- 73 HearingDesk$Teams.has(I)Z loops at []
set_option maxRecDepth 20000 in
theorem r26_73_0 {d : Nat} {x1 : Int} {σ : Mem} {n : Nat} {Q : Pst} (ht : x1 < 0 → EV d 73 22 [(19, 26), (0, x1)] [] σ n Q) (hf : 0 ≤ x1 → EV d 73 4 [(19, 26), (0, x1)] [] σ n Q) : EV d 73 0 [(19, 26), (0, x1)] [] σ n Q := e_load rfl rfl rfl (e_ifp rfl c2 ht (fun h => hf (Int.not_lt.mp h)))
set_option maxRecDepth 20000 in
theorem r26_73_4 {d : Nat} {x1 : Int} {σ : Mem} {n : Nat} {Q : Pst} (ht : (σ 26 4) ≤ x1 → EV d 73 22 [(19, 26), (0, x1)] [] σ n Q) (hf : x1 < (σ 26 4) → EV d 73 12 [(19, 26), (0, x1)] [] σ n Q) : EV d 73 4 [(19, 26), (0, x1)] [] σ n Q := e_load rfl rfl rfl (e_load rfl rfl rfl (e_getf rfl rfl rfl (by decide) (e_icp rfl c3 ht (fun h => hf (Int.not_le.mp h)))))
set_option maxRecDepth 20000 in
theorem r26_73_12 {d : Nat} {x1 : Int} {σ : Mem} {n : Nat} {Q : Pst} (ht : 20 ≤ x1 → EV d 73 22 [(19, 26), (0, x1)] [] σ n Q) (hf : x1 < 20 → EV d 73 18 [(19, 26), (0, x1)] [] σ n Q) : EV d 73 12 [(19, 26), (0, x1)] [] σ n Q := e_load rfl rfl rfl (e_const rfl (e_icp rfl c3 ht (fun h => hf (Int.not_le.mp h))))
set_option maxRecDepth 20000 in
theorem r26_73_18 {d : Nat} {x1 : Int} {σ : Mem} {n : Nat} {Q : Pst} (k : Q (some (0, 1)) σ n) : EV d 73 18 [(19, 26), (0, x1)] [] σ n Q := e_const rfl (e_goto rfl (ev_ret rfl (by decide) rfl k))
set_option maxRecDepth 20000 in
theorem r26_73_22 {d : Nat} {x1 : Int} {σ : Mem} {n : Nat} {Q : Pst} (k : Q (some (0, 0)) σ n) : EV d 73 22 [(19, 26), (0, x1)] [] σ n Q := e_const rfl (ev_ret rfl (by decide) rfl k)
-- 73 HearingDesk$Teams.has(I)Z loops at []
set_option maxRecDepth 20000 in
theorem r31_73_0 {d : Nat} {x1 : Int} {σ : Mem} {n : Nat} {Q : Pst} (ht : x1 < 0 → EV d 73 22 [(19, 31), (0, x1)] [] σ n Q) (hf : 0 ≤ x1 → EV d 73 4 [(19, 31), (0, x1)] [] σ n Q) : EV d 73 0 [(19, 31), (0, x1)] [] σ n Q := e_load rfl rfl rfl (e_ifp rfl c2 ht (fun h => hf (Int.not_lt.mp h)))
set_option maxRecDepth 20000 in
theorem r31_73_4 {d : Nat} {x1 : Int} {σ : Mem} {n : Nat} {Q : Pst} (ht : (σ 31 4) ≤ x1 → EV d 73 22 [(19, 31), (0, x1)] [] σ n Q) (hf : x1 < (σ 31 4) → EV d 73 12 [(19, 31), (0, x1)] [] σ n Q) : EV d 73 4 [(19, 31), (0, x1)] [] σ n Q := e_load rfl rfl rfl (e_load rfl rfl rfl (e_getf rfl rfl rfl (by decide) (e_icp rfl c3 ht (fun h => hf (Int.not_le.mp h)))))
set_option maxRecDepth 20000 in
theorem r31_73_12 {d : Nat} {x1 : Int} {σ : Mem} {n : Nat} {Q : Pst} (ht : 20 ≤ x1 → EV d 73 22 [(19, 31), (0, x1)] [] σ n Q) (hf : x1 < 20 → EV d 73 18 [(19, 31), (0, x1)] [] σ n Q) : EV d 73 12 [(19, 31), (0, x1)] [] σ n Q := e_load rfl rfl rfl (e_const rfl (e_icp rfl c3 ht (fun h => hf (Int.not_le.mp h))))
set_option maxRecDepth 20000 in
theorem r31_73_18 {d : Nat} {x1 : Int} {σ : Mem} {n : Nat} {Q : Pst} (k : Q (some (0, 1)) σ n) : EV d 73 18 [(19, 31), (0, x1)] [] σ n Q := e_const rfl (e_goto rfl (ev_ret rfl (by decide) rfl k))
set_option maxRecDepth 20000 in
theorem r31_73_22 {d : Nat} {x1 : Int} {σ : Mem} {n : Nat} {Q : Pst} (k : Q (some (0, 0)) σ n) : EV d 73 22 [(19, 31), (0, x1)] [] σ n Q := e_const rfl (ev_ret rfl (by decide) rfl k)
-- 73 HearingDesk$Teams.has(I)Z loops at []
set_option maxRecDepth 20000 in
theorem r36_73_0 {d : Nat} {x1 : Int} {σ : Mem} {n : Nat} {Q : Pst} (ht : x1 < 0 → EV d 73 22 [(19, 36), (0, x1)] [] σ n Q) (hf : 0 ≤ x1 → EV d 73 4 [(19, 36), (0, x1)] [] σ n Q) : EV d 73 0 [(19, 36), (0, x1)] [] σ n Q := e_load rfl rfl rfl (e_ifp rfl c2 ht (fun h => hf (Int.not_lt.mp h)))
set_option maxRecDepth 20000 in
theorem r36_73_4 {d : Nat} {x1 : Int} {σ : Mem} {n : Nat} {Q : Pst} (ht : (σ 36 4) ≤ x1 → EV d 73 22 [(19, 36), (0, x1)] [] σ n Q) (hf : x1 < (σ 36 4) → EV d 73 12 [(19, 36), (0, x1)] [] σ n Q) : EV d 73 4 [(19, 36), (0, x1)] [] σ n Q := e_load rfl rfl rfl (e_load rfl rfl rfl (e_getf rfl rfl rfl (by decide) (e_icp rfl c3 ht (fun h => hf (Int.not_le.mp h)))))
set_option maxRecDepth 20000 in
theorem r36_73_12 {d : Nat} {x1 : Int} {σ : Mem} {n : Nat} {Q : Pst} (ht : 20 ≤ x1 → EV d 73 22 [(19, 36), (0, x1)] [] σ n Q) (hf : x1 < 20 → EV d 73 18 [(19, 36), (0, x1)] [] σ n Q) : EV d 73 12 [(19, 36), (0, x1)] [] σ n Q := e_load rfl rfl rfl (e_const rfl (e_icp rfl c3 ht (fun h => hf (Int.not_le.mp h))))
set_option maxRecDepth 20000 in
theorem r36_73_18 {d : Nat} {x1 : Int} {σ : Mem} {n : Nat} {Q : Pst} (k : Q (some (0, 1)) σ n) : EV d 73 18 [(19, 36), (0, x1)] [] σ n Q := e_const rfl (e_goto rfl (ev_ret rfl (by decide) rfl k))
set_option maxRecDepth 20000 in
theorem r36_73_22 {d : Nat} {x1 : Int} {σ : Mem} {n : Nat} {Q : Pst} (k : Q (some (0, 0)) σ n) : EV d 73 22 [(19, 36), (0, x1)] [] σ n Q := e_const rfl (ev_ret rfl (by decide) rfl k)
-- 73 HearingDesk$Teams.has(I)Z loops at []
set_option maxRecDepth 20000 in
theorem r41_73_0 {d : Nat} {x1 : Int} {σ : Mem} {n : Nat} {Q : Pst} (ht : x1 < 0 → EV d 73 22 [(19, 41), (0, x1)] [] σ n Q) (hf : 0 ≤ x1 → EV d 73 4 [(19, 41), (0, x1)] [] σ n Q) : EV d 73 0 [(19, 41), (0, x1)] [] σ n Q := e_load rfl rfl rfl (e_ifp rfl c2 ht (fun h => hf (Int.not_lt.mp h)))
set_option maxRecDepth 20000 in
theorem r41_73_4 {d : Nat} {x1 : Int} {σ : Mem} {n : Nat} {Q : Pst} (ht : (σ 41 4) ≤ x1 → EV d 73 22 [(19, 41), (0, x1)] [] σ n Q) (hf : x1 < (σ 41 4) → EV d 73 12 [(19, 41), (0, x1)] [] σ n Q) : EV d 73 4 [(19, 41), (0, x1)] [] σ n Q := e_load rfl rfl rfl (e_load rfl rfl rfl (e_getf rfl rfl rfl (by decide) (e_icp rfl c3 ht (fun h => hf (Int.not_le.mp h)))))
set_option maxRecDepth 20000 in
theorem r41_73_12 {d : Nat} {x1 : Int} {σ : Mem} {n : Nat} {Q : Pst} (ht : 20 ≤ x1 → EV d 73 22 [(19, 41), (0, x1)] [] σ n Q) (hf : x1 < 20 → EV d 73 18 [(19, 41), (0, x1)] [] σ n Q) : EV d 73 12 [(19, 41), (0, x1)] [] σ n Q := e_load rfl rfl rfl (e_const rfl (e_icp rfl c3 ht (fun h => hf (Int.not_le.mp h))))
set_option maxRecDepth 20000 in
theorem r41_73_18 {d : Nat} {x1 : Int} {σ : Mem} {n : Nat} {Q : Pst} (k : Q (some (0, 1)) σ n) : EV d 73 18 [(19, 41), (0, x1)] [] σ n Q := e_const rfl (e_goto rfl (ev_ret rfl (by decide) rfl k))
set_option maxRecDepth 20000 in
theorem r41_73_22 {d : Nat} {x1 : Int} {σ : Mem} {n : Nat} {Q : Pst} (k : Q (some (0, 0)) σ n) : EV d 73 22 [(19, 41), (0, x1)] [] σ n Q := e_const rfl (ev_ret rfl (by decide) rfl k)
-- 74 HearingDesk$Teams.markAble(ILHearingDesk$Hearing;LHearingDesk$People;LHearingDesk$Papers;)V loops at [42]
set_option maxRecDepth 20000 in
theorem r16_74_0 {d : Nat} {x1 : Int} {x2 : Int} {l5 : AV} {l6 : AV} {l7 : AV} {σ : Mem} {n : Nat} {Q : Pst} (k : EVM d 34 [(16, 3), (0, x1)] σ n (fun r σ1 n1 => EV (d + 1) 74 5 [(19, 16), (0, x1), (13, x2), (16, 3), (15, 6), l5, l6, l7] (r.toList ++ []) σ1 n1 Q)) : EV (d + 1) 74 0 [(19, 16), (0, x1), (13, x2), (16, 3), (15, 6), l5, l6, l7] [] σ n Q := e_load rfl rfl rfl (e_load rfl rfl rfl (ev_call rfl ⟨Nat.le_of_ble_eq_true rfl, Nat.le_of_ble_eq_true rfl, argM_v (by decide) rfl (by decide) rfl⟩ k))
set_option maxRecDepth 20000 in
theorem r16_74_5 {d : Nat} {x1 : Int} {x2 : Int} {l5 : AV} {l6 : AV} {l7 : AV} {y0 : Int} {σ : Mem} {n : Nat} {Q : Pst} (ht : y0 = 0 → EV d 74 24 [(19, 16), (0, x1), (13, x2), (16, 3), (15, 6), l5, l6, l7] [] σ n Q) (hf : ¬ y0 = 0 → EV d 74 8 [(19, 16), (0, x1), (13, x2), (16, 3), (15, 6), l5, l6, l7] [] σ n Q) : EV d 74 5 [(19, 16), (0, x1), (13, x2), (16, 3), (15, 6), l5, l6, l7] [(0, y0)] σ n Q := e_ifp rfl c0 ht (hf)
set_option maxRecDepth 20000 in
theorem r16_74_8 {d : Nat} {x1 : Int} {x2 : Int} {l5 : AV} {l6 : AV} {l7 : AV} {σ : Mem} {n : Nat} {Q : Pst} (h0 : 0 ≤ x2) (k : EVM d 37 [(16, 3), (0, x1), (0, (σ x2 0))] σ n (fun r σ1 n1 => EV (d + 1) 74 17 [(19, 16), (0, x1), (13, x2), (16, 3), (15, 6), l5, l6, l7] (r.toList ++ []) σ1 n1 Q)) : EV (d + 1) 74 8 [(19, 16), (0, x1), (13, x2), (16, 3), (15, 6), l5, l6, l7] [] σ n Q := e_load rfl rfl rfl (e_load rfl rfl rfl (e_load rfl rfl rfl (e_getf rfl rfl rfl h0 (ev_call rfl ⟨Nat.le_of_ble_eq_true rfl, Nat.le_of_ble_eq_true rfl, argM_v (by decide) rfl (by decide) rfl⟩ k))))
set_option maxRecDepth 20000 in
theorem r16_74_17 {d : Nat} {x1 : Int} {x2 : Int} {l5 : AV} {l6 : AV} {l7 : AV} {y0 : Int} {σ : Mem} {n : Nat} {Q : Pst} (ht : ¬ y0 = 0 → EV d 74 24 [(19, 16), (0, x1), (13, x2), (16, 3), (15, 6), l5, l6, l7] [] σ n Q) (hf : y0 = 0 → EV d 74 20 [(19, 16), (0, x1), (13, x2), (16, 3), (15, 6), l5, l6, l7] [] σ n Q) : EV d 74 17 [(19, 16), (0, x1), (13, x2), (16, 3), (15, 6), l5, l6, l7] [(0, y0)] σ n Q := e_ifp rfl c1 ht (fun h => hf (Decidable.not_not.mp h))
set_option maxRecDepth 20000 in
theorem r16_74_20 {d : Nat} {x1 : Int} {x2 : Int} {l5 : AV} {l6 : AV} {l7 : AV} {σ : Mem} {n : Nat} {Q : Pst} (h0 : 0 ≤ x2) (k : EVM d 32 [(15, 6), (0, x1), (0, (σ x2 5))] σ n (fun r σ1 n1 => EV (d + 1) 74 37 [(19, 16), (0, x1), (13, x2), (16, 3), (15, 6), (0, 1), l6, l7] (r.toList ++ []) σ1 n1 Q)) : EV (d + 1) 74 20 [(19, 16), (0, x1), (13, x2), (16, 3), (15, 6), l5, l6, l7] [] σ n Q := e_const rfl (e_goto rfl (e_store rfl ⟨rfl, Nat.le_of_ble_eq_true rfl, Or.inl rfl⟩ rfl (e_load rfl rfl rfl (e_load rfl rfl rfl (e_load rfl rfl rfl (e_getf rfl rfl rfl h0 (ev_call rfl ⟨Nat.le_of_ble_eq_true rfl, Nat.le_of_ble_eq_true rfl, argM_v (by decide) rfl (by decide) rfl⟩ k)))))))
set_option maxRecDepth 20000 in
theorem r16_74_24 {d : Nat} {x1 : Int} {x2 : Int} {l5 : AV} {l6 : AV} {l7 : AV} {σ : Mem} {n : Nat} {Q : Pst} (h0 : 0 ≤ x2) (k : EVM d 32 [(15, 6), (0, x1), (0, (σ x2 5))] σ n (fun r σ1 n1 => EV (d + 1) 74 37 [(19, 16), (0, x1), (13, x2), (16, 3), (15, 6), (0, 0), l6, l7] (r.toList ++ []) σ1 n1 Q)) : EV (d + 1) 74 24 [(19, 16), (0, x1), (13, x2), (16, 3), (15, 6), l5, l6, l7] [] σ n Q := e_const rfl (e_store rfl ⟨rfl, Nat.le_of_ble_eq_true rfl, Or.inl rfl⟩ rfl (e_load rfl rfl rfl (e_load rfl rfl rfl (e_load rfl rfl rfl (e_getf rfl rfl rfl h0 (ev_call rfl ⟨Nat.le_of_ble_eq_true rfl, Nat.le_of_ble_eq_true rfl, argM_v (by decide) rfl (by decide) rfl⟩ k))))))
set_option maxRecDepth 20000 in
theorem r16_74_37 {d : Nat} {x1 : Int} {x2 : Int} {x5 : Int} {l6 : AV} {l7 : AV} {y0 : Int} {σ : Mem} {n : Nat} {Q : Pst} (k : EV d 74 42 [(19, 16), (0, x1), (13, x2), (16, 3), (15, 6), (0, x5), (50, y0), (0, 0)] [] σ n Q) : EV d 74 37 [(19, 16), (0, x1), (13, x2), (16, 3), (15, 6), (0, x5), l6, l7] [(50, y0)] σ n Q := e_store rfl ⟨rfl, Nat.le_of_ble_eq_true rfl, Or.inl rfl⟩ rfl (e_const rfl (e_store rfl ⟨rfl, Nat.le_of_ble_eq_true rfl, Or.inl rfl⟩ rfl (k)))
set_option maxRecDepth 20000 in
theorem r16_74_42 {d : Nat} {x1 : Int} {x2 : Int} {x5 : Int} {x6 : Int} {x7 : Int} {σ : Mem} {n : Nat} {Q : Pst} (ht : 10 ≤ x7 → EV d 74 89 [(19, 16), (0, x1), (13, x2), (16, 3), (15, 6), (0, x5), (50, x6), (0, x7)] [] σ n Q) (hf : x7 < 10 → EV d 74 49 [(19, 16), (0, x1), (13, x2), (16, 3), (15, 6), (0, x5), (50, x6), (0, x7)] [] σ n Q) : EV d 74 42 [(19, 16), (0, x1), (13, x2), (16, 3), (15, 6), (0, x5), (50, x6), (0, x7)] [] σ n Q := e_load rfl rfl rfl (e_const rfl (e_icp rfl c3 ht (fun h => hf (Int.not_le.mp h))))
set_option maxRecDepth 20000 in
theorem r16_74_49 {d : Nat} {x1 : Int} {x2 : Int} {x5 : Int} {x6 : Int} {x7 : Int} {σ : Mem} {n : Nat} {Q : Pst} (hG : GR σ) (ht : x5 = 0 → EV d 74 81 [(19, 16), (0, x1), (13, x2), (16, 3), (15, 6), (0, x5), (50, x6), (0, x7)] [(0, (Zadd (Zmul x1 10) x7)), (52, 20)] σ n Q) (hf : ¬ x5 = 0 → EV d 74 65 [(19, 16), (0, x1), (13, x2), (16, 3), (15, 6), (0, x5), (50, x6), (0, x7)] [(0, (Zadd (Zmul x1 10) x7)), (52, 20)] σ n Q) : EV d 74 49 [(19, 16), (0, x1), (13, x2), (16, 3), (15, 6), (0, x5), (50, x6), (0, x7)] [] σ n Q := e_load rfl rfl rfl (e_getg rfl rfl rfl (by decide) (g_16_3 hG) (e_load rfl rfl rfl (e_const rfl (e_bin rfl rfl (e_load rfl rfl rfl (e_bin rfl rfl (e_load rfl rfl rfl (e_ifp rfl c0 ht (hf)))))))))
set_option maxRecDepth 20000 in
theorem r16_74_65 {d : Nat} {x1 : Int} {x2 : Int} {x5 : Int} {x6 : Int} {x7 : Int} {y0 : Int} {y1 : Int} {σ : Mem} {n : Nat} {Q : Pst} (h0 : 0 ≤ x6) (h1 : 0 ≤ x7 ∧ x7 < lnF x6) (h2 : 0 ≤ x2) (ht : (σ x6 x7) < (σ x2 4) → EV d 74 81 [(19, 16), (0, x1), (13, x2), (16, 3), (15, 6), (0, x5), (50, x6), (0, x7)] [(0, y1), (52, y0)] σ n Q) (hf : (σ x2 4) ≤ (σ x6 x7) → EV d 74 77 [(19, 16), (0, x1), (13, x2), (16, 3), (15, 6), (0, x5), (50, x6), (0, x7)] [(0, y1), (52, y0)] σ n Q) : EV d 74 65 [(19, 16), (0, x1), (13, x2), (16, 3), (15, 6), (0, x5), (50, x6), (0, x7)] [(0, y1), (52, y0)] σ n Q := e_load rfl rfl rfl (e_load rfl rfl rfl (e_ald rfl rfl h0 h1 (e_load rfl rfl rfl (e_getf rfl rfl rfl h2 (e_icp rfl c2 ht (fun h => hf (Int.not_lt.mp h)))))))
set_option maxRecDepth 20000 in
theorem r16_74_77 {d : Nat} {x1 : Int} {x2 : Int} {x5 : Int} {x6 : Int} {x7 : Int} {y0 : Int} {y1 : Int} {σ : Mem} {n : Nat} {Q : Pst} (h0 : 0 ≤ y0) (h1 : 0 ≤ y1 ∧ y1 < lnF y0) (k : EV d 74 42 [(19, 16), (0, x1), (13, x2), (16, 3), (15, 6), (0, x5), (50, x6), (0, (Zadd x7 1))] [] (wrM σ y0 y1 (Zznar 1)) n Q) : EV d 74 77 [(19, 16), (0, x1), (13, x2), (16, 3), (15, 6), (0, x5), (50, x6), (0, x7)] [(0, y1), (52, y0)] σ n Q := e_const rfl (e_goto rfl (e_zast rfl h0 h1 (e_iinc rfl rfl (Or.inl rfl) rfl (e_goto rfl (k)))))
set_option maxRecDepth 20000 in
theorem r16_74_81 {d : Nat} {x1 : Int} {x2 : Int} {x5 : Int} {x6 : Int} {x7 : Int} {y0 : Int} {y1 : Int} {σ : Mem} {n : Nat} {Q : Pst} (h0 : 0 ≤ y0) (h1 : 0 ≤ y1 ∧ y1 < lnF y0) (k : EV d 74 42 [(19, 16), (0, x1), (13, x2), (16, 3), (15, 6), (0, x5), (50, x6), (0, (Zadd x7 1))] [] (wrM σ y0 y1 (Zznar 0)) n Q) : EV d 74 81 [(19, 16), (0, x1), (13, x2), (16, 3), (15, 6), (0, x5), (50, x6), (0, x7)] [(0, y1), (52, y0)] σ n Q := e_const rfl (e_zast rfl h0 h1 (e_iinc rfl rfl (Or.inl rfl) rfl (e_goto rfl (k))))
set_option maxRecDepth 20000 in
theorem r16_74_89 {d : Nat} {x1 : Int} {x2 : Int} {x5 : Int} {x6 : Int} {x7 : Int} {σ : Mem} {n : Nat} {Q : Pst} (k : Q none σ n) : EV d 74 89 [(19, 16), (0, x1), (13, x2), (16, 3), (15, 6), (0, x5), (50, x6), (0, x7)] [] σ n Q := ev_ret rfl (by decide) rfl k
-- 74 HearingDesk$Teams.markAble(ILHearingDesk$Hearing;LHearingDesk$People;LHearingDesk$Papers;)V loops at [42]
set_option maxRecDepth 20000 in
theorem r26_74_0 {d : Nat} {x1 : Int} {x2 : Int} {l5 : AV} {l6 : AV} {l7 : AV} {σ : Mem} {n : Nat} {Q : Pst} (k : EVM d 34 [(16, 3), (0, x1)] σ n (fun r σ1 n1 => EV (d + 1) 74 5 [(19, 26), (0, x1), (13, x2), (16, 3), (15, 6), l5, l6, l7] (r.toList ++ []) σ1 n1 Q)) : EV (d + 1) 74 0 [(19, 26), (0, x1), (13, x2), (16, 3), (15, 6), l5, l6, l7] [] σ n Q := e_load rfl rfl rfl (e_load rfl rfl rfl (ev_call rfl ⟨Nat.le_of_ble_eq_true rfl, Nat.le_of_ble_eq_true rfl, argM_v (by decide) rfl (by decide) rfl⟩ k))
set_option maxRecDepth 20000 in
theorem r26_74_5 {d : Nat} {x1 : Int} {x2 : Int} {l5 : AV} {l6 : AV} {l7 : AV} {y0 : Int} {σ : Mem} {n : Nat} {Q : Pst} (ht : y0 = 0 → EV d 74 24 [(19, 26), (0, x1), (13, x2), (16, 3), (15, 6), l5, l6, l7] [] σ n Q) (hf : ¬ y0 = 0 → EV d 74 8 [(19, 26), (0, x1), (13, x2), (16, 3), (15, 6), l5, l6, l7] [] σ n Q) : EV d 74 5 [(19, 26), (0, x1), (13, x2), (16, 3), (15, 6), l5, l6, l7] [(0, y0)] σ n Q := e_ifp rfl c0 ht (hf)
set_option maxRecDepth 20000 in
theorem r26_74_8 {d : Nat} {x1 : Int} {x2 : Int} {l5 : AV} {l6 : AV} {l7 : AV} {σ : Mem} {n : Nat} {Q : Pst} (h0 : 0 ≤ x2) (k : EVM d 37 [(16, 3), (0, x1), (0, (σ x2 0))] σ n (fun r σ1 n1 => EV (d + 1) 74 17 [(19, 26), (0, x1), (13, x2), (16, 3), (15, 6), l5, l6, l7] (r.toList ++ []) σ1 n1 Q)) : EV (d + 1) 74 8 [(19, 26), (0, x1), (13, x2), (16, 3), (15, 6), l5, l6, l7] [] σ n Q := e_load rfl rfl rfl (e_load rfl rfl rfl (e_load rfl rfl rfl (e_getf rfl rfl rfl h0 (ev_call rfl ⟨Nat.le_of_ble_eq_true rfl, Nat.le_of_ble_eq_true rfl, argM_v (by decide) rfl (by decide) rfl⟩ k))))
set_option maxRecDepth 20000 in
theorem r26_74_17 {d : Nat} {x1 : Int} {x2 : Int} {l5 : AV} {l6 : AV} {l7 : AV} {y0 : Int} {σ : Mem} {n : Nat} {Q : Pst} (ht : ¬ y0 = 0 → EV d 74 24 [(19, 26), (0, x1), (13, x2), (16, 3), (15, 6), l5, l6, l7] [] σ n Q) (hf : y0 = 0 → EV d 74 20 [(19, 26), (0, x1), (13, x2), (16, 3), (15, 6), l5, l6, l7] [] σ n Q) : EV d 74 17 [(19, 26), (0, x1), (13, x2), (16, 3), (15, 6), l5, l6, l7] [(0, y0)] σ n Q := e_ifp rfl c1 ht (fun h => hf (Decidable.not_not.mp h))
set_option maxRecDepth 20000 in
theorem r26_74_20 {d : Nat} {x1 : Int} {x2 : Int} {l5 : AV} {l6 : AV} {l7 : AV} {σ : Mem} {n : Nat} {Q : Pst} (h0 : 0 ≤ x2) (k : EVM d 32 [(15, 6), (0, x1), (0, (σ x2 5))] σ n (fun r σ1 n1 => EV (d + 1) 74 37 [(19, 26), (0, x1), (13, x2), (16, 3), (15, 6), (0, 1), l6, l7] (r.toList ++ []) σ1 n1 Q)) : EV (d + 1) 74 20 [(19, 26), (0, x1), (13, x2), (16, 3), (15, 6), l5, l6, l7] [] σ n Q := e_const rfl (e_goto rfl (e_store rfl ⟨rfl, Nat.le_of_ble_eq_true rfl, Or.inl rfl⟩ rfl (e_load rfl rfl rfl (e_load rfl rfl rfl (e_load rfl rfl rfl (e_getf rfl rfl rfl h0 (ev_call rfl ⟨Nat.le_of_ble_eq_true rfl, Nat.le_of_ble_eq_true rfl, argM_v (by decide) rfl (by decide) rfl⟩ k)))))))
set_option maxRecDepth 20000 in
theorem r26_74_24 {d : Nat} {x1 : Int} {x2 : Int} {l5 : AV} {l6 : AV} {l7 : AV} {σ : Mem} {n : Nat} {Q : Pst} (h0 : 0 ≤ x2) (k : EVM d 32 [(15, 6), (0, x1), (0, (σ x2 5))] σ n (fun r σ1 n1 => EV (d + 1) 74 37 [(19, 26), (0, x1), (13, x2), (16, 3), (15, 6), (0, 0), l6, l7] (r.toList ++ []) σ1 n1 Q)) : EV (d + 1) 74 24 [(19, 26), (0, x1), (13, x2), (16, 3), (15, 6), l5, l6, l7] [] σ n Q := e_const rfl (e_store rfl ⟨rfl, Nat.le_of_ble_eq_true rfl, Or.inl rfl⟩ rfl (e_load rfl rfl rfl (e_load rfl rfl rfl (e_load rfl rfl rfl (e_getf rfl rfl rfl h0 (ev_call rfl ⟨Nat.le_of_ble_eq_true rfl, Nat.le_of_ble_eq_true rfl, argM_v (by decide) rfl (by decide) rfl⟩ k))))))
set_option maxRecDepth 20000 in
theorem r26_74_37 {d : Nat} {x1 : Int} {x2 : Int} {x5 : Int} {l6 : AV} {l7 : AV} {y0 : Int} {σ : Mem} {n : Nat} {Q : Pst} (k : EV d 74 42 [(19, 26), (0, x1), (13, x2), (16, 3), (15, 6), (0, x5), (50, y0), (0, 0)] [] σ n Q) : EV d 74 37 [(19, 26), (0, x1), (13, x2), (16, 3), (15, 6), (0, x5), l6, l7] [(50, y0)] σ n Q := e_store rfl ⟨rfl, Nat.le_of_ble_eq_true rfl, Or.inl rfl⟩ rfl (e_const rfl (e_store rfl ⟨rfl, Nat.le_of_ble_eq_true rfl, Or.inl rfl⟩ rfl (k)))
set_option maxRecDepth 20000 in
theorem r26_74_42 {d : Nat} {x1 : Int} {x2 : Int} {x5 : Int} {x6 : Int} {x7 : Int} {σ : Mem} {n : Nat} {Q : Pst} (ht : 10 ≤ x7 → EV d 74 89 [(19, 26), (0, x1), (13, x2), (16, 3), (15, 6), (0, x5), (50, x6), (0, x7)] [] σ n Q) (hf : x7 < 10 → EV d 74 49 [(19, 26), (0, x1), (13, x2), (16, 3), (15, 6), (0, x5), (50, x6), (0, x7)] [] σ n Q) : EV d 74 42 [(19, 26), (0, x1), (13, x2), (16, 3), (15, 6), (0, x5), (50, x6), (0, x7)] [] σ n Q := e_load rfl rfl rfl (e_const rfl (e_icp rfl c3 ht (fun h => hf (Int.not_le.mp h))))
set_option maxRecDepth 20000 in
theorem r26_74_49 {d : Nat} {x1 : Int} {x2 : Int} {x5 : Int} {x6 : Int} {x7 : Int} {σ : Mem} {n : Nat} {Q : Pst} (hG : GR σ) (ht : x5 = 0 → EV d 74 81 [(19, 26), (0, x1), (13, x2), (16, 3), (15, 6), (0, x5), (50, x6), (0, x7)] [(0, (Zadd (Zmul x1 10) x7)), (52, 30)] σ n Q) (hf : ¬ x5 = 0 → EV d 74 65 [(19, 26), (0, x1), (13, x2), (16, 3), (15, 6), (0, x5), (50, x6), (0, x7)] [(0, (Zadd (Zmul x1 10) x7)), (52, 30)] σ n Q) : EV d 74 49 [(19, 26), (0, x1), (13, x2), (16, 3), (15, 6), (0, x5), (50, x6), (0, x7)] [] σ n Q := e_load rfl rfl rfl (e_getg rfl rfl rfl (by decide) (g_26_3 hG) (e_load rfl rfl rfl (e_const rfl (e_bin rfl rfl (e_load rfl rfl rfl (e_bin rfl rfl (e_load rfl rfl rfl (e_ifp rfl c0 ht (hf)))))))))
set_option maxRecDepth 20000 in
theorem r26_74_65 {d : Nat} {x1 : Int} {x2 : Int} {x5 : Int} {x6 : Int} {x7 : Int} {y0 : Int} {y1 : Int} {σ : Mem} {n : Nat} {Q : Pst} (h0 : 0 ≤ x6) (h1 : 0 ≤ x7 ∧ x7 < lnF x6) (h2 : 0 ≤ x2) (ht : (σ x6 x7) < (σ x2 4) → EV d 74 81 [(19, 26), (0, x1), (13, x2), (16, 3), (15, 6), (0, x5), (50, x6), (0, x7)] [(0, y1), (52, y0)] σ n Q) (hf : (σ x2 4) ≤ (σ x6 x7) → EV d 74 77 [(19, 26), (0, x1), (13, x2), (16, 3), (15, 6), (0, x5), (50, x6), (0, x7)] [(0, y1), (52, y0)] σ n Q) : EV d 74 65 [(19, 26), (0, x1), (13, x2), (16, 3), (15, 6), (0, x5), (50, x6), (0, x7)] [(0, y1), (52, y0)] σ n Q := e_load rfl rfl rfl (e_load rfl rfl rfl (e_ald rfl rfl h0 h1 (e_load rfl rfl rfl (e_getf rfl rfl rfl h2 (e_icp rfl c2 ht (fun h => hf (Int.not_lt.mp h)))))))
set_option maxRecDepth 20000 in
theorem r26_74_77 {d : Nat} {x1 : Int} {x2 : Int} {x5 : Int} {x6 : Int} {x7 : Int} {y0 : Int} {y1 : Int} {σ : Mem} {n : Nat} {Q : Pst} (h0 : 0 ≤ y0) (h1 : 0 ≤ y1 ∧ y1 < lnF y0) (k : EV d 74 42 [(19, 26), (0, x1), (13, x2), (16, 3), (15, 6), (0, x5), (50, x6), (0, (Zadd x7 1))] [] (wrM σ y0 y1 (Zznar 1)) n Q) : EV d 74 77 [(19, 26), (0, x1), (13, x2), (16, 3), (15, 6), (0, x5), (50, x6), (0, x7)] [(0, y1), (52, y0)] σ n Q := e_const rfl (e_goto rfl (e_zast rfl h0 h1 (e_iinc rfl rfl (Or.inl rfl) rfl (e_goto rfl (k)))))
set_option maxRecDepth 20000 in
theorem r26_74_81 {d : Nat} {x1 : Int} {x2 : Int} {x5 : Int} {x6 : Int} {x7 : Int} {y0 : Int} {y1 : Int} {σ : Mem} {n : Nat} {Q : Pst} (h0 : 0 ≤ y0) (h1 : 0 ≤ y1 ∧ y1 < lnF y0) (k : EV d 74 42 [(19, 26), (0, x1), (13, x2), (16, 3), (15, 6), (0, x5), (50, x6), (0, (Zadd x7 1))] [] (wrM σ y0 y1 (Zznar 0)) n Q) : EV d 74 81 [(19, 26), (0, x1), (13, x2), (16, 3), (15, 6), (0, x5), (50, x6), (0, x7)] [(0, y1), (52, y0)] σ n Q := e_const rfl (e_zast rfl h0 h1 (e_iinc rfl rfl (Or.inl rfl) rfl (e_goto rfl (k))))
set_option maxRecDepth 20000 in
theorem r26_74_89 {d : Nat} {x1 : Int} {x2 : Int} {x5 : Int} {x6 : Int} {x7 : Int} {σ : Mem} {n : Nat} {Q : Pst} (k : Q none σ n) : EV d 74 89 [(19, 26), (0, x1), (13, x2), (16, 3), (15, 6), (0, x5), (50, x6), (0, x7)] [] σ n Q := ev_ret rfl (by decide) rfl k
-- 74 HearingDesk$Teams.markAble(ILHearingDesk$Hearing;LHearingDesk$People;LHearingDesk$Papers;)V loops at [42]
set_option maxRecDepth 20000 in
theorem r31_74_0 {d : Nat} {x1 : Int} {x2 : Int} {l5 : AV} {l6 : AV} {l7 : AV} {σ : Mem} {n : Nat} {Q : Pst} (k : EVM d 34 [(16, 3), (0, x1)] σ n (fun r σ1 n1 => EV (d + 1) 74 5 [(19, 31), (0, x1), (13, x2), (16, 3), (15, 6), l5, l6, l7] (r.toList ++ []) σ1 n1 Q)) : EV (d + 1) 74 0 [(19, 31), (0, x1), (13, x2), (16, 3), (15, 6), l5, l6, l7] [] σ n Q := e_load rfl rfl rfl (e_load rfl rfl rfl (ev_call rfl ⟨Nat.le_of_ble_eq_true rfl, Nat.le_of_ble_eq_true rfl, argM_v (by decide) rfl (by decide) rfl⟩ k))
set_option maxRecDepth 20000 in
theorem r31_74_5 {d : Nat} {x1 : Int} {x2 : Int} {l5 : AV} {l6 : AV} {l7 : AV} {y0 : Int} {σ : Mem} {n : Nat} {Q : Pst} (ht : y0 = 0 → EV d 74 24 [(19, 31), (0, x1), (13, x2), (16, 3), (15, 6), l5, l6, l7] [] σ n Q) (hf : ¬ y0 = 0 → EV d 74 8 [(19, 31), (0, x1), (13, x2), (16, 3), (15, 6), l5, l6, l7] [] σ n Q) : EV d 74 5 [(19, 31), (0, x1), (13, x2), (16, 3), (15, 6), l5, l6, l7] [(0, y0)] σ n Q := e_ifp rfl c0 ht (hf)
set_option maxRecDepth 20000 in
theorem r31_74_8 {d : Nat} {x1 : Int} {x2 : Int} {l5 : AV} {l6 : AV} {l7 : AV} {σ : Mem} {n : Nat} {Q : Pst} (h0 : 0 ≤ x2) (k : EVM d 37 [(16, 3), (0, x1), (0, (σ x2 0))] σ n (fun r σ1 n1 => EV (d + 1) 74 17 [(19, 31), (0, x1), (13, x2), (16, 3), (15, 6), l5, l6, l7] (r.toList ++ []) σ1 n1 Q)) : EV (d + 1) 74 8 [(19, 31), (0, x1), (13, x2), (16, 3), (15, 6), l5, l6, l7] [] σ n Q := e_load rfl rfl rfl (e_load rfl rfl rfl (e_load rfl rfl rfl (e_getf rfl rfl rfl h0 (ev_call rfl ⟨Nat.le_of_ble_eq_true rfl, Nat.le_of_ble_eq_true rfl, argM_v (by decide) rfl (by decide) rfl⟩ k))))
set_option maxRecDepth 20000 in
theorem r31_74_17 {d : Nat} {x1 : Int} {x2 : Int} {l5 : AV} {l6 : AV} {l7 : AV} {y0 : Int} {σ : Mem} {n : Nat} {Q : Pst} (ht : ¬ y0 = 0 → EV d 74 24 [(19, 31), (0, x1), (13, x2), (16, 3), (15, 6), l5, l6, l7] [] σ n Q) (hf : y0 = 0 → EV d 74 20 [(19, 31), (0, x1), (13, x2), (16, 3), (15, 6), l5, l6, l7] [] σ n Q) : EV d 74 17 [(19, 31), (0, x1), (13, x2), (16, 3), (15, 6), l5, l6, l7] [(0, y0)] σ n Q := e_ifp rfl c1 ht (fun h => hf (Decidable.not_not.mp h))
set_option maxRecDepth 20000 in
theorem r31_74_20 {d : Nat} {x1 : Int} {x2 : Int} {l5 : AV} {l6 : AV} {l7 : AV} {σ : Mem} {n : Nat} {Q : Pst} (h0 : 0 ≤ x2) (k : EVM d 32 [(15, 6), (0, x1), (0, (σ x2 5))] σ n (fun r σ1 n1 => EV (d + 1) 74 37 [(19, 31), (0, x1), (13, x2), (16, 3), (15, 6), (0, 1), l6, l7] (r.toList ++ []) σ1 n1 Q)) : EV (d + 1) 74 20 [(19, 31), (0, x1), (13, x2), (16, 3), (15, 6), l5, l6, l7] [] σ n Q := e_const rfl (e_goto rfl (e_store rfl ⟨rfl, Nat.le_of_ble_eq_true rfl, Or.inl rfl⟩ rfl (e_load rfl rfl rfl (e_load rfl rfl rfl (e_load rfl rfl rfl (e_getf rfl rfl rfl h0 (ev_call rfl ⟨Nat.le_of_ble_eq_true rfl, Nat.le_of_ble_eq_true rfl, argM_v (by decide) rfl (by decide) rfl⟩ k)))))))
set_option maxRecDepth 20000 in
theorem r31_74_24 {d : Nat} {x1 : Int} {x2 : Int} {l5 : AV} {l6 : AV} {l7 : AV} {σ : Mem} {n : Nat} {Q : Pst} (h0 : 0 ≤ x2) (k : EVM d 32 [(15, 6), (0, x1), (0, (σ x2 5))] σ n (fun r σ1 n1 => EV (d + 1) 74 37 [(19, 31), (0, x1), (13, x2), (16, 3), (15, 6), (0, 0), l6, l7] (r.toList ++ []) σ1 n1 Q)) : EV (d + 1) 74 24 [(19, 31), (0, x1), (13, x2), (16, 3), (15, 6), l5, l6, l7] [] σ n Q := e_const rfl (e_store rfl ⟨rfl, Nat.le_of_ble_eq_true rfl, Or.inl rfl⟩ rfl (e_load rfl rfl rfl (e_load rfl rfl rfl (e_load rfl rfl rfl (e_getf rfl rfl rfl h0 (ev_call rfl ⟨Nat.le_of_ble_eq_true rfl, Nat.le_of_ble_eq_true rfl, argM_v (by decide) rfl (by decide) rfl⟩ k))))))
set_option maxRecDepth 20000 in
theorem r31_74_37 {d : Nat} {x1 : Int} {x2 : Int} {x5 : Int} {l6 : AV} {l7 : AV} {y0 : Int} {σ : Mem} {n : Nat} {Q : Pst} (k : EV d 74 42 [(19, 31), (0, x1), (13, x2), (16, 3), (15, 6), (0, x5), (50, y0), (0, 0)] [] σ n Q) : EV d 74 37 [(19, 31), (0, x1), (13, x2), (16, 3), (15, 6), (0, x5), l6, l7] [(50, y0)] σ n Q := e_store rfl ⟨rfl, Nat.le_of_ble_eq_true rfl, Or.inl rfl⟩ rfl (e_const rfl (e_store rfl ⟨rfl, Nat.le_of_ble_eq_true rfl, Or.inl rfl⟩ rfl (k)))
set_option maxRecDepth 20000 in
theorem r31_74_42 {d : Nat} {x1 : Int} {x2 : Int} {x5 : Int} {x6 : Int} {x7 : Int} {σ : Mem} {n : Nat} {Q : Pst} (ht : 10 ≤ x7 → EV d 74 89 [(19, 31), (0, x1), (13, x2), (16, 3), (15, 6), (0, x5), (50, x6), (0, x7)] [] σ n Q) (hf : x7 < 10 → EV d 74 49 [(19, 31), (0, x1), (13, x2), (16, 3), (15, 6), (0, x5), (50, x6), (0, x7)] [] σ n Q) : EV d 74 42 [(19, 31), (0, x1), (13, x2), (16, 3), (15, 6), (0, x5), (50, x6), (0, x7)] [] σ n Q := e_load rfl rfl rfl (e_const rfl (e_icp rfl c3 ht (fun h => hf (Int.not_le.mp h))))
set_option maxRecDepth 20000 in
theorem r31_74_49 {d : Nat} {x1 : Int} {x2 : Int} {x5 : Int} {x6 : Int} {x7 : Int} {σ : Mem} {n : Nat} {Q : Pst} (hG : GR σ) (ht : x5 = 0 → EV d 74 81 [(19, 31), (0, x1), (13, x2), (16, 3), (15, 6), (0, x5), (50, x6), (0, x7)] [(0, (Zadd (Zmul x1 10) x7)), (52, 35)] σ n Q) (hf : ¬ x5 = 0 → EV d 74 65 [(19, 31), (0, x1), (13, x2), (16, 3), (15, 6), (0, x5), (50, x6), (0, x7)] [(0, (Zadd (Zmul x1 10) x7)), (52, 35)] σ n Q) : EV d 74 49 [(19, 31), (0, x1), (13, x2), (16, 3), (15, 6), (0, x5), (50, x6), (0, x7)] [] σ n Q := e_load rfl rfl rfl (e_getg rfl rfl rfl (by decide) (g_31_3 hG) (e_load rfl rfl rfl (e_const rfl (e_bin rfl rfl (e_load rfl rfl rfl (e_bin rfl rfl (e_load rfl rfl rfl (e_ifp rfl c0 ht (hf)))))))))
set_option maxRecDepth 20000 in
theorem r31_74_65 {d : Nat} {x1 : Int} {x2 : Int} {x5 : Int} {x6 : Int} {x7 : Int} {y0 : Int} {y1 : Int} {σ : Mem} {n : Nat} {Q : Pst} (h0 : 0 ≤ x6) (h1 : 0 ≤ x7 ∧ x7 < lnF x6) (h2 : 0 ≤ x2) (ht : (σ x6 x7) < (σ x2 4) → EV d 74 81 [(19, 31), (0, x1), (13, x2), (16, 3), (15, 6), (0, x5), (50, x6), (0, x7)] [(0, y1), (52, y0)] σ n Q) (hf : (σ x2 4) ≤ (σ x6 x7) → EV d 74 77 [(19, 31), (0, x1), (13, x2), (16, 3), (15, 6), (0, x5), (50, x6), (0, x7)] [(0, y1), (52, y0)] σ n Q) : EV d 74 65 [(19, 31), (0, x1), (13, x2), (16, 3), (15, 6), (0, x5), (50, x6), (0, x7)] [(0, y1), (52, y0)] σ n Q := e_load rfl rfl rfl (e_load rfl rfl rfl (e_ald rfl rfl h0 h1 (e_load rfl rfl rfl (e_getf rfl rfl rfl h2 (e_icp rfl c2 ht (fun h => hf (Int.not_lt.mp h)))))))
set_option maxRecDepth 20000 in
theorem r31_74_77 {d : Nat} {x1 : Int} {x2 : Int} {x5 : Int} {x6 : Int} {x7 : Int} {y0 : Int} {y1 : Int} {σ : Mem} {n : Nat} {Q : Pst} (h0 : 0 ≤ y0) (h1 : 0 ≤ y1 ∧ y1 < lnF y0) (k : EV d 74 42 [(19, 31), (0, x1), (13, x2), (16, 3), (15, 6), (0, x5), (50, x6), (0, (Zadd x7 1))] [] (wrM σ y0 y1 (Zznar 1)) n Q) : EV d 74 77 [(19, 31), (0, x1), (13, x2), (16, 3), (15, 6), (0, x5), (50, x6), (0, x7)] [(0, y1), (52, y0)] σ n Q := e_const rfl (e_goto rfl (e_zast rfl h0 h1 (e_iinc rfl rfl (Or.inl rfl) rfl (e_goto rfl (k)))))
set_option maxRecDepth 20000 in
theorem r31_74_81 {d : Nat} {x1 : Int} {x2 : Int} {x5 : Int} {x6 : Int} {x7 : Int} {y0 : Int} {y1 : Int} {σ : Mem} {n : Nat} {Q : Pst} (h0 : 0 ≤ y0) (h1 : 0 ≤ y1 ∧ y1 < lnF y0) (k : EV d 74 42 [(19, 31), (0, x1), (13, x2), (16, 3), (15, 6), (0, x5), (50, x6), (0, (Zadd x7 1))] [] (wrM σ y0 y1 (Zznar 0)) n Q) : EV d 74 81 [(19, 31), (0, x1), (13, x2), (16, 3), (15, 6), (0, x5), (50, x6), (0, x7)] [(0, y1), (52, y0)] σ n Q := e_const rfl (e_zast rfl h0 h1 (e_iinc rfl rfl (Or.inl rfl) rfl (e_goto rfl (k))))
set_option maxRecDepth 20000 in
theorem r31_74_89 {d : Nat} {x1 : Int} {x2 : Int} {x5 : Int} {x6 : Int} {x7 : Int} {σ : Mem} {n : Nat} {Q : Pst} (k : Q none σ n) : EV d 74 89 [(19, 31), (0, x1), (13, x2), (16, 3), (15, 6), (0, x5), (50, x6), (0, x7)] [] σ n Q := ev_ret rfl (by decide) rfl k
-- 74 HearingDesk$Teams.markAble(ILHearingDesk$Hearing;LHearingDesk$People;LHearingDesk$Papers;)V loops at [42]
set_option maxRecDepth 20000 in
theorem r36_74_0 {d : Nat} {x1 : Int} {x2 : Int} {l5 : AV} {l6 : AV} {l7 : AV} {σ : Mem} {n : Nat} {Q : Pst} (k : EVM d 34 [(16, 3), (0, x1)] σ n (fun r σ1 n1 => EV (d + 1) 74 5 [(19, 36), (0, x1), (13, x2), (16, 3), (15, 6), l5, l6, l7] (r.toList ++ []) σ1 n1 Q)) : EV (d + 1) 74 0 [(19, 36), (0, x1), (13, x2), (16, 3), (15, 6), l5, l6, l7] [] σ n Q := e_load rfl rfl rfl (e_load rfl rfl rfl (ev_call rfl ⟨Nat.le_of_ble_eq_true rfl, Nat.le_of_ble_eq_true rfl, argM_v (by decide) rfl (by decide) rfl⟩ k))
set_option maxRecDepth 20000 in
theorem r36_74_5 {d : Nat} {x1 : Int} {x2 : Int} {l5 : AV} {l6 : AV} {l7 : AV} {y0 : Int} {σ : Mem} {n : Nat} {Q : Pst} (ht : y0 = 0 → EV d 74 24 [(19, 36), (0, x1), (13, x2), (16, 3), (15, 6), l5, l6, l7] [] σ n Q) (hf : ¬ y0 = 0 → EV d 74 8 [(19, 36), (0, x1), (13, x2), (16, 3), (15, 6), l5, l6, l7] [] σ n Q) : EV d 74 5 [(19, 36), (0, x1), (13, x2), (16, 3), (15, 6), l5, l6, l7] [(0, y0)] σ n Q := e_ifp rfl c0 ht (hf)
set_option maxRecDepth 20000 in
theorem r36_74_8 {d : Nat} {x1 : Int} {x2 : Int} {l5 : AV} {l6 : AV} {l7 : AV} {σ : Mem} {n : Nat} {Q : Pst} (h0 : 0 ≤ x2) (k : EVM d 37 [(16, 3), (0, x1), (0, (σ x2 0))] σ n (fun r σ1 n1 => EV (d + 1) 74 17 [(19, 36), (0, x1), (13, x2), (16, 3), (15, 6), l5, l6, l7] (r.toList ++ []) σ1 n1 Q)) : EV (d + 1) 74 8 [(19, 36), (0, x1), (13, x2), (16, 3), (15, 6), l5, l6, l7] [] σ n Q := e_load rfl rfl rfl (e_load rfl rfl rfl (e_load rfl rfl rfl (e_getf rfl rfl rfl h0 (ev_call rfl ⟨Nat.le_of_ble_eq_true rfl, Nat.le_of_ble_eq_true rfl, argM_v (by decide) rfl (by decide) rfl⟩ k))))
set_option maxRecDepth 20000 in
theorem r36_74_17 {d : Nat} {x1 : Int} {x2 : Int} {l5 : AV} {l6 : AV} {l7 : AV} {y0 : Int} {σ : Mem} {n : Nat} {Q : Pst} (ht : ¬ y0 = 0 → EV d 74 24 [(19, 36), (0, x1), (13, x2), (16, 3), (15, 6), l5, l6, l7] [] σ n Q) (hf : y0 = 0 → EV d 74 20 [(19, 36), (0, x1), (13, x2), (16, 3), (15, 6), l5, l6, l7] [] σ n Q) : EV d 74 17 [(19, 36), (0, x1), (13, x2), (16, 3), (15, 6), l5, l6, l7] [(0, y0)] σ n Q := e_ifp rfl c1 ht (fun h => hf (Decidable.not_not.mp h))
set_option maxRecDepth 20000 in
theorem r36_74_20 {d : Nat} {x1 : Int} {x2 : Int} {l5 : AV} {l6 : AV} {l7 : AV} {σ : Mem} {n : Nat} {Q : Pst} (h0 : 0 ≤ x2) (k : EVM d 32 [(15, 6), (0, x1), (0, (σ x2 5))] σ n (fun r σ1 n1 => EV (d + 1) 74 37 [(19, 36), (0, x1), (13, x2), (16, 3), (15, 6), (0, 1), l6, l7] (r.toList ++ []) σ1 n1 Q)) : EV (d + 1) 74 20 [(19, 36), (0, x1), (13, x2), (16, 3), (15, 6), l5, l6, l7] [] σ n Q := e_const rfl (e_goto rfl (e_store rfl ⟨rfl, Nat.le_of_ble_eq_true rfl, Or.inl rfl⟩ rfl (e_load rfl rfl rfl (e_load rfl rfl rfl (e_load rfl rfl rfl (e_getf rfl rfl rfl h0 (ev_call rfl ⟨Nat.le_of_ble_eq_true rfl, Nat.le_of_ble_eq_true rfl, argM_v (by decide) rfl (by decide) rfl⟩ k)))))))
set_option maxRecDepth 20000 in
theorem r36_74_24 {d : Nat} {x1 : Int} {x2 : Int} {l5 : AV} {l6 : AV} {l7 : AV} {σ : Mem} {n : Nat} {Q : Pst} (h0 : 0 ≤ x2) (k : EVM d 32 [(15, 6), (0, x1), (0, (σ x2 5))] σ n (fun r σ1 n1 => EV (d + 1) 74 37 [(19, 36), (0, x1), (13, x2), (16, 3), (15, 6), (0, 0), l6, l7] (r.toList ++ []) σ1 n1 Q)) : EV (d + 1) 74 24 [(19, 36), (0, x1), (13, x2), (16, 3), (15, 6), l5, l6, l7] [] σ n Q := e_const rfl (e_store rfl ⟨rfl, Nat.le_of_ble_eq_true rfl, Or.inl rfl⟩ rfl (e_load rfl rfl rfl (e_load rfl rfl rfl (e_load rfl rfl rfl (e_getf rfl rfl rfl h0 (ev_call rfl ⟨Nat.le_of_ble_eq_true rfl, Nat.le_of_ble_eq_true rfl, argM_v (by decide) rfl (by decide) rfl⟩ k))))))
set_option maxRecDepth 20000 in
theorem r36_74_37 {d : Nat} {x1 : Int} {x2 : Int} {x5 : Int} {l6 : AV} {l7 : AV} {y0 : Int} {σ : Mem} {n : Nat} {Q : Pst} (k : EV d 74 42 [(19, 36), (0, x1), (13, x2), (16, 3), (15, 6), (0, x5), (50, y0), (0, 0)] [] σ n Q) : EV d 74 37 [(19, 36), (0, x1), (13, x2), (16, 3), (15, 6), (0, x5), l6, l7] [(50, y0)] σ n Q := e_store rfl ⟨rfl, Nat.le_of_ble_eq_true rfl, Or.inl rfl⟩ rfl (e_const rfl (e_store rfl ⟨rfl, Nat.le_of_ble_eq_true rfl, Or.inl rfl⟩ rfl (k)))
set_option maxRecDepth 20000 in
theorem r36_74_42 {d : Nat} {x1 : Int} {x2 : Int} {x5 : Int} {x6 : Int} {x7 : Int} {σ : Mem} {n : Nat} {Q : Pst} (ht : 10 ≤ x7 → EV d 74 89 [(19, 36), (0, x1), (13, x2), (16, 3), (15, 6), (0, x5), (50, x6), (0, x7)] [] σ n Q) (hf : x7 < 10 → EV d 74 49 [(19, 36), (0, x1), (13, x2), (16, 3), (15, 6), (0, x5), (50, x6), (0, x7)] [] σ n Q) : EV d 74 42 [(19, 36), (0, x1), (13, x2), (16, 3), (15, 6), (0, x5), (50, x6), (0, x7)] [] σ n Q := e_load rfl rfl rfl (e_const rfl (e_icp rfl c3 ht (fun h => hf (Int.not_le.mp h))))
set_option maxRecDepth 20000 in
theorem r36_74_49 {d : Nat} {x1 : Int} {x2 : Int} {x5 : Int} {x6 : Int} {x7 : Int} {σ : Mem} {n : Nat} {Q : Pst} (hG : GR σ) (ht : x5 = 0 → EV d 74 81 [(19, 36), (0, x1), (13, x2), (16, 3), (15, 6), (0, x5), (50, x6), (0, x7)] [(0, (Zadd (Zmul x1 10) x7)), (52, 40)] σ n Q) (hf : ¬ x5 = 0 → EV d 74 65 [(19, 36), (0, x1), (13, x2), (16, 3), (15, 6), (0, x5), (50, x6), (0, x7)] [(0, (Zadd (Zmul x1 10) x7)), (52, 40)] σ n Q) : EV d 74 49 [(19, 36), (0, x1), (13, x2), (16, 3), (15, 6), (0, x5), (50, x6), (0, x7)] [] σ n Q := e_load rfl rfl rfl (e_getg rfl rfl rfl (by decide) (g_36_3 hG) (e_load rfl rfl rfl (e_const rfl (e_bin rfl rfl (e_load rfl rfl rfl (e_bin rfl rfl (e_load rfl rfl rfl (e_ifp rfl c0 ht (hf)))))))))
set_option maxRecDepth 20000 in
theorem r36_74_65 {d : Nat} {x1 : Int} {x2 : Int} {x5 : Int} {x6 : Int} {x7 : Int} {y0 : Int} {y1 : Int} {σ : Mem} {n : Nat} {Q : Pst} (h0 : 0 ≤ x6) (h1 : 0 ≤ x7 ∧ x7 < lnF x6) (h2 : 0 ≤ x2) (ht : (σ x6 x7) < (σ x2 4) → EV d 74 81 [(19, 36), (0, x1), (13, x2), (16, 3), (15, 6), (0, x5), (50, x6), (0, x7)] [(0, y1), (52, y0)] σ n Q) (hf : (σ x2 4) ≤ (σ x6 x7) → EV d 74 77 [(19, 36), (0, x1), (13, x2), (16, 3), (15, 6), (0, x5), (50, x6), (0, x7)] [(0, y1), (52, y0)] σ n Q) : EV d 74 65 [(19, 36), (0, x1), (13, x2), (16, 3), (15, 6), (0, x5), (50, x6), (0, x7)] [(0, y1), (52, y0)] σ n Q := e_load rfl rfl rfl (e_load rfl rfl rfl (e_ald rfl rfl h0 h1 (e_load rfl rfl rfl (e_getf rfl rfl rfl h2 (e_icp rfl c2 ht (fun h => hf (Int.not_lt.mp h)))))))
set_option maxRecDepth 20000 in
theorem r36_74_77 {d : Nat} {x1 : Int} {x2 : Int} {x5 : Int} {x6 : Int} {x7 : Int} {y0 : Int} {y1 : Int} {σ : Mem} {n : Nat} {Q : Pst} (h0 : 0 ≤ y0) (h1 : 0 ≤ y1 ∧ y1 < lnF y0) (k : EV d 74 42 [(19, 36), (0, x1), (13, x2), (16, 3), (15, 6), (0, x5), (50, x6), (0, (Zadd x7 1))] [] (wrM σ y0 y1 (Zznar 1)) n Q) : EV d 74 77 [(19, 36), (0, x1), (13, x2), (16, 3), (15, 6), (0, x5), (50, x6), (0, x7)] [(0, y1), (52, y0)] σ n Q := e_const rfl (e_goto rfl (e_zast rfl h0 h1 (e_iinc rfl rfl (Or.inl rfl) rfl (e_goto rfl (k)))))
set_option maxRecDepth 20000 in
theorem r36_74_81 {d : Nat} {x1 : Int} {x2 : Int} {x5 : Int} {x6 : Int} {x7 : Int} {y0 : Int} {y1 : Int} {σ : Mem} {n : Nat} {Q : Pst} (h0 : 0 ≤ y0) (h1 : 0 ≤ y1 ∧ y1 < lnF y0) (k : EV d 74 42 [(19, 36), (0, x1), (13, x2), (16, 3), (15, 6), (0, x5), (50, x6), (0, (Zadd x7 1))] [] (wrM σ y0 y1 (Zznar 0)) n Q) : EV d 74 81 [(19, 36), (0, x1), (13, x2), (16, 3), (15, 6), (0, x5), (50, x6), (0, x7)] [(0, y1), (52, y0)] σ n Q := e_const rfl (e_zast rfl h0 h1 (e_iinc rfl rfl (Or.inl rfl) rfl (e_goto rfl (k))))
set_option maxRecDepth 20000 in
theorem r36_74_89 {d : Nat} {x1 : Int} {x2 : Int} {x5 : Int} {x6 : Int} {x7 : Int} {σ : Mem} {n : Nat} {Q : Pst} (k : Q none σ n) : EV d 74 89 [(19, 36), (0, x1), (13, x2), (16, 3), (15, 6), (0, x5), (50, x6), (0, x7)] [] σ n Q := ev_ret rfl (by decide) rfl k
