/-! every run of the small machine is one of the machine -/
theorem wsY_good {y : Nat} (hy : y < 179) : GoodIn gtbl (wsY y) := by
  intro w hw
  rcases List.mem_cons.mp hw with rfl | h
  · have q := gt_of (pc_ok y hy) rfl
    exact gt_good _ q
  · exact gt_good w h
theorem map_split {ad adK : Nat → Nat} {b0 b : Nat} {st : List AV} : st.map (cnV ad adK b0) = (((st.take b).reverse).map (cnV ad adK b0)).reverse ++ (st.drop b).map (cnV ad adK b0) := by
  rw [List.map_reverse, List.reverse_reverse, ← List.map_append, List.take_append_drop]
set_option maxHeartbeats 4000000 in
theorem snd_W (h44 : S44) (h45 : S45) : ∀ f, SndW f := by
  intro f
  induction f with
  | zero => intro d m pc L st σ n r σ' n' h; cases h
  | succ f ih =>
    intro d m pc L st σ n r σ' n' h hC p l e R s mid args below meth c H locs Q D C5 ad adK adV b0 A xs ls n0 X hn0 hRc hRs hxs hP hD hS hLr hret
    obtain ⟨op, nx, a, b, v, ts, hi, hcase⟩ := run_cases h
    rcases hcase with ⟨rfl, c1, c2, c3, d', r1, σ1, n1, rfl, h1, h2⟩ | ⟨h36, r1, hr, ho⟩ | ⟨h36, pc', L', st', σ1, n1, hs, h2⟩
    · -- a call
      obtain ⟨hI, hm⟩ := ins_ok hi (by omega)
      obtain ⟨hx, hb, hml, hown, hts, hE, hStr, hA, hin, hfr, hlo, hsc⟩ := id X
      obtain ⟨hM, hL, hSt, hG⟩ := id hC
      obtain ⟨a1, a2, -⟩ := arg_of c3
      have hargs : ∀ x ∈ (st.take b).reverse, okV n x := fun x hx => hSt x (List.mem_of_mem_take (List.mem_reverse.mp hx))
      have hC1 := ent_ok (m := a) hM hargs (fun x hx => (a2 x hx).1) (mlF a)
      obtain ⟨q1, q2, q3, q4⟩ := run_ok f d' a 0 _ [] σ n r1 σ1 n1 h1 hC1
      have hC2 : okC m n1 L (r1.toList ++ st.drop b) σ1 := ⟨q1, fun x hx => (hL x hx).imp id (fun z => z.mono q3), fun x hx => by
        rcases List.mem_append.mp hx with z | z
        · exact q2 x (by cases r1 with
            | none => cases z
            | some y => simp only [Option.toList_some, List.mem_singleton] at z; rw [z])
        · exact (hSt x (List.mem_of_mem_drop z)).mono q3, hG⟩
      obtain ⟨-, -, z3, -⟩ := run_ok f (d' + 1) m nx L _ σ1 n1 r σ' n' h2 hC2
      simp only [okI, Bool.and_eq_true, decide_eq_true_eq] at hI
      obtain ⟨⟨⟨rfl, hkd⟩, ha⟩, hI⟩ := hI
      have hMet := snd_Met ih ha h1 hM hargs (fun x hx => (a2 x hx).1) a1 l D C5 ad adK adV b0 H.size
      obtain ⟨hpre, hF⟩ := pre_W (as := (st.take b).reverse) (b0 := b0) hE hStr hA hP hD hS
      obtain ⟨y1, y2, y3, y4, y5, y6⟩ := pi_ok a ha
      have e1 := ss_mono hn0
      have e2 := ss_mono q3
      have e3 := ss_mono z3
      have hcs : n - n0 + (n1 - n) ≤ R.cells ∧ ssM n - ssM n0 + (ssM n1 - ssM n) ≤ R.slots := ⟨by omega, by omega⟩
      have hroom : 2 * (F0 mid pc ls (st.map (cnV ad adK b0))).monitorRoom + ((((st.drop b).map (cnV ad adK b0))).map fun v => v.category).sum ≤ 8 := lv_room (by rw [cn_sum]; exact c2)
      have hini : (Cond.initialized (myF a).cls).before args s = true := hts _ (gt_of y1 rfl)
      have hcode : (Cond.code (myF a) (mcF a) (mlF a) (mrF a)).before args s = true := hts _ (gt_of (pc_ok a ha) rfl)
      have hsize : (F0 mid pc ls (st.map (cnV ad adK b0))).locals.size = mlF m := hLr.2.1
      have hgo : va_Run p l e R s mid args below meth c H locs (n - n0) (ssM n - ssM n0) (n1 - n) (ssM n1 - ssM n) (F0 mid pc ls (st.map (cnV ad adK b0))) ((st.drop b).map (cnV ad adK b0)) (QcM D C5 ad adK b0 σ n H.size r1 σ1 n1 ((st.take b).reverse.map (cnV ad adK b0)).toArray) (va_A (wsM ad C5 n σ) H.size) := by
        have hfix : CallFix p mid c (mcF m) (mlF m) s args gtbl (ownF (moF m)) := ⟨hx, hb, hml, hown, hts⟩
        have hR : (rmD d' (n1 - n) (ssM n1 - ssM n)).frames + 1 ≤ R.frames ∧ 8 + (mlF a + 11) + (rmD d' (n1 - n) (ssM n1 - ssM n)).locals ≤ R.locals := ⟨by show 2 * d' + 4 + 1 ≤ _; omega, by show 8 + (mlF a + 11) + (60 * d' + 100) ≤ _; omega⟩
        split at hI
        · rename_i ix q
          rw [Bool.and_eq_true] at hI
          obtain ⟨hI1, hI2⟩ := hI
          split at hI1
          · -- static
            rename_i hk0
            simp only [Bool.and_eq_true, decide_eq_true_eq] at hI1
            obtain ⟨hd1, hd2⟩ := hI1
            have hlen : ((st.take b).reverse.map (cnV ad adK b0)).length = b := by rw [List.length_map, List.length_reverse, List.length_take]; omega
            have hst : (Cond.static (myF a)).before args s = true := hts _ (gt_of (ps_ok a ha (by rw [← hkd]; exact hk0)) rfl)
            split at hI2
            · obtain ⟨e, he, h3⟩ := List.any_eq_true.mp hI2
              simp only [decide_eq_true_eq] at h3
              have hl := mk_ok e he
              rw [h3.1, h3.2.1, h3.2.2] at hl
              exact va_runS hfix hMet ⟨callB_of b hts (wsY_good ha) rfl rfl rfl hini (hts _ (gt_of hl rfl)) ⟨y3, y4, hd2⟩ hR, hst⟩ hpre rfl hlen hsize map_split hroom (isI_d hd1) hcs
            · simp only [Bool.and_eq_true] at hI2
              obtain ⟨e, he, h3⟩ := List.any_eq_true.mp hI2.1
              simp only [decide_eq_true_eq] at h3
              have hw : Cond.methodLinkNest (ownF (moF m)) ix.toNat (myF a) "HearingDesk" ∈ nstW := by
                refine List.mem_map.mpr ⟨e, he, ?_⟩
                rw [h3.1, h3.2.1, h3.2.2]
              exact va_runSN hfix hMet ⟨va_cnB b hts (wsY_good ha) rfl rfl rfl (hE.2.1 _ hw) hini ⟨y3, y4, hd2⟩ hR, hst, trivial⟩ hpre rfl hlen hsize map_split hroom (isI_d hd1) hcs
          · -- on an object
            rename_i hk1
            simp only [Bool.and_eq_true, decide_eq_true_eq] at hI1
            obtain ⟨hd1, hd2⟩ := hI1
            obtain ⟨k, tl, hk, hk0⟩ := (arg_of c3).2.2 (by omega)
            obtain ⟨w1, w2, w3⟩ := pv_ok a ha (by rw [← hkd]; exact hk1)
            have hok := hargs (10 + moF a, k) (by rw [hk]; exact List.mem_cons_self)
            obtain ⟨g1, g2, g3⟩ := okR_sh (hok.ref (by omega)) hk0
            have hmap : (st.take b).reverse.map (cnV ad adK b0) = .ref (ad k.toNat) :: tl.map (cnV ad adK b0) := by rw [hk, List.map_cons, cn_r (by omega) hk0]
            have hlen : (tl.map (cnV ad adK b0)).length + 1 = b := by
              have : ((st.take b).reverse).length = b := by rw [List.length_reverse, List.length_take]; omega
              rw [hk, List.length_cons] at this
              rw [List.length_map]
              exact this
            have hdl : (parseMethodDescriptor (myF a).desc).map (fun d => d.parameters.length) = some (tl.map (cnV ad adK b0)).length := by
              cases hp : parseMethodDescriptor (myF a).desc with
              | none => rw [hp] at hd2; cases hd2
              | some z =>
                rw [hp] at hd2
                simp only [Option.map_some, Option.some.injEq] at hd2 ⊢
                omega
            have hrecv := va_recv hE.1 hP (cx_ok (moF a) w3) (ws_get g1 |>.trans (by rw [enc_obj g2 w3]))
            rw [(cw_ok _ w3).1, ← y2] at hrecv
            rw [hmap] at hpre ⊢
            split at hI2
            · obtain ⟨e, he, h3⟩ := List.any_eq_true.mp hI2
              simp only [decide_eq_true_eq] at h3
              have hl := mk_ok e he
              rw [h3.1, h3.2.1, h3.2.2] at hl
              exact va_runV (C := (myF a).cls) hfix hMet ⟨callB_of _ hts (wsY_good ha) rfl rfl rfl hini (hts _ (gt_of hl rfl)) ⟨y3, y4, hdl⟩ hR, hts _ (gt_of w1 rfl), hts _ (gt_of w2 rfl)⟩ ⟨hpre.1, hrecv, hpre.2⟩ rfl rfl hsize (by rw [map_split (b := b), hmap, List.reverse_cons, List.append_assoc]; rfl) hroom (isI_d hd1) hcs
            · simp only [Bool.and_eq_true, decide_eq_true_eq] at hI2
              omega
          · -- a constructor
            rename_i hk2
            simp only [Bool.and_eq_true, decide_eq_true_eq] at hI1
            obtain ⟨hd1, hd2⟩ := hI1
            obtain ⟨k, tl, hk, hk0⟩ := (arg_of c3).2.2 (by omega)
            obtain ⟨w1, w2, w3, w4⟩ := pn_ok a ha (by rw [← hkd]; exact hk2)
            have hmap : (st.take b).reverse.map (cnV ad adK b0) = .ref (ad k.toNat) :: tl.map (cnV ad adK b0) := by rw [hk, List.map_cons, cn_r (by omega) hk0]
            have hlen : (tl.map (cnV ad adK b0)).length + 1 = b := by
              have : ((st.take b).reverse).length = b := by rw [List.length_reverse, List.length_take]; omega
              rw [hk, List.length_cons] at this
              rw [List.length_map]
              exact this
            have hdl : (parseMethodDescriptor (myF a).desc).map (fun d => d.parameters.length) = some (tl.map (cnV ad adK b0)).length := by
              cases hp : parseMethodDescriptor (myF a).desc with
              | none => rw [hp] at hd2; cases hd2
              | some z =>
                rw [hp] at hd2
                simp only [Option.map_some, Option.some.injEq] at hd2 ⊢
                omega
            rw [hmap] at hpre ⊢
            split at hI2
            · obtain ⟨e, he, h3⟩ := List.any_eq_true.mp hI2
              simp only [decide_eq_true_eq] at h3
              have hl := mk_ok e he
              rw [h3.1, h3.2.1, h3.2.2] at hl
              exact va_runI hfix hMet ⟨callB_of (bytes := mcF a) (ws' := gtbl) _ hts (wsY_good ha) (by unfold wsY; rw [w3]) rfl rfl hini (hts _ (gt_of hl rfl)) ⟨y3, y4, hdl⟩ hR, w2, hts _ (gt_of w1 rfl)⟩ hpre rfl rfl hsize (by rw [map_split (b := b), hmap, List.reverse_cons, List.append_assoc]; rfl) hroom (isI_d hd1) hcs
            · simp only [Bool.and_eq_true, decide_eq_true_eq] at hI2
              omega
          · cases hI1
        · cases hI
      refine call_W hgo hS hF (fun ad' H1 locs1 had p1 p2 p3 => ?_)
      have k := ih (d' + 1) m (pc + 3) L (r1.toList ++ st.drop b) σ1 n1 r σ' n' h2 hC2 n0 X (Nat.le_trans hn0 q3) hRc hRs (fun j => (q4 j).trans (hxs j)) p1 p2 p3 (hLr.ad (n := n) hL had) (fun op nx a b v ts pc ls H locs ad'' g1 g2 g3 g4 g5 g6 => hret op nx a b v ts pc ls H locs ad'' g1 g2 (fun k hk => (g3 k (Nat.lt_of_lt_of_le hk q3)).trans (had k hk)) g4 g5 g6)
      rw [List.map_append, cn_ads (fun x hx => hSt x (List.mem_of_mem_drop hx)) had] at k
      have hrm : (r1.map (cnV ad' adK b0)).toList = r1.toList.map (cnV ad' adK b0) := by cases r1 <;> rfl
      rw [hrm]
      exact W.cs (by omega) (by omega) k
    · -- a return
      cases ho
      have h99 : ¬ op = 99 := by
        intro q
        subst q
        rw [ins_99 (nx := 0) (a := 0) (b := 0) (v := 0) (ts := []) (L := []) (σ := σ) (n := 0) |>.2] at hr
        cases hr
      obtain ⟨hI, -⟩ := ins_ok hi h99
      have hst := ret_of hr
      have k := hret op nx a b v ts pc ls H locs ad hI (by rw [← hst]; exact hr) (fun _ _ => rfl) hP hD hS
      rw [← hst] at k
      exact k
    · -- a step
      have h99 : ¬ op = 99 := by
        intro q
        subst q
        rw [ins_99.1] at hs
        cases hs
      obtain ⟨hI, hm⟩ := ins_ok hi h99
      obtain ⟨t1, t2⟩ := tb_of hi h99
      obtain ⟨q1, q2, q3⟩ := stp_ok hI hs hC
      obtain ⟨-, -, z3, -⟩ := run_ok f d m pc' L' st' σ1 n1 r σ' n' h2 q1
      refine stp_W h44 h45 (N := n') hI t1 t2 hs hC X hn0 z3 hRc hRs hxs hP hD hS hLr (fun ad' ls' H' locs' had p1 p2 p3 p4 => ?_)
      exact ih d m pc' L' st' σ1 n1 r σ' n' h2 q1 n0 X (Nat.le_trans hn0 q2) hRc hRs (fun j => (stp_scr hs j).trans (hxs j)) p1 p2 p3 p4 (fun op nx a b v ts pc ls H locs ad'' g1 g2 g3 g4 g5 g6 => hret op nx a b v ts pc ls H locs ad'' g1 g2 (fun k hk => (g3 k (Nat.lt_of_lt_of_le hk q2)).trans (had k hk)) g4 g5 g6)
