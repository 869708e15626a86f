/-! ===== out, print: class and reference answer alike ===== -/
/-- out's answer, of the list that is out -/
def ouA (l : List Int) (n r : Int32) : Prop := ((n.toInt < 0 ∨ (l.length : Int) ≤ n.toInt) → r = -1) ∧ ∀ (i : Nat) (x : Int), n.toInt = (i : Int) → l[i]? = some x → r.toInt = x
theorem ouA_eq {l : List Int} {n r r' : Int32} (h : ouA l n r) (g : ouA l n r') : r = r' := by
  by_cases w : n.toInt < 0 ∨ (l.length : Int) ≤ n.toInt
  · rw [h.1 w, g.1 w]
  · have hi : n.toInt.toNat < l.length := by omega
    have e := List.getElem?_eq_getElem hi
    exact Int32.toInt_inj.mp ((h.2 _ _ (by omega) e).trans (g.2 _ _ (by omega) e).symm)
section ZWH
variable {h : xH} {s : yS}
theorem zv_149 {P : Nat} {z : zS} {n : Int32} {l : List Int} (hP : P = 3 ∨ P = 39) (hO : OUz z l) : Zu 9 [] [(0, 9, P)] [] 149 [.ref 0, .int n] z (fun v _ => ∃ r : Int32, v = some (.int r) ∧ ouA l n r) := by
  obtain ⟨o1, o2, o3⟩ := hO
  refine zc_149 (d := 0) hP ?_
  unfold v_149_0 v_149_14 v_149_15
  refine ⟨fun w => ⟨_, rfl, fun _ => rfl, fun i x hi => by omega⟩, fun w => ⟨fun w2 => ⟨_, rfl, fun _ => rfl, fun i x hi hx => ?_⟩, fun w2 => ⟨_, rfl, fun w3 => by omega, fun i x hi hx => ?_⟩⟩⟩
  · have := (List.getElem?_eq_some_iff.mp hx).1
    omega
  · have e := o3 i x hx
    unfold zg
    rw [hi, Int.toNat_natCast]
    exact e
theorem rv_269 {n : Int32} {l : List Int} (hO : OUr s l) : Tot 1 269 [.ref 213, .int n] s (fun v _ => ∀ r : Int32, v = some (.int r) → ouA l n r) := by
  obtain ⟨o1, o2, o3⟩ := hO
  refine t_269 (d := 0) ?_
  unfold w_269_0 w_269_9 w_269_15
  intro s1 e1
  subst e1
  have o1 : ((sf s 0 0).1 120).toInt = (l.length : Int) := o1
  have o3 : ∀ (i : Nat) (x : Int), l[i]? = some x → ((sf s 0 0).2.1 284 i).toInt = x := o3
  refine ⟨fun w r hr => ?_, fun w => ⟨fun w2 => ⟨by omega, fun r hr => ?_⟩, fun w2 r hr => ?_⟩⟩
  · rw [← Value.int.inj (Option.some.inj hr)]
    exact ⟨fun _ => rfl, fun i x hi => by omega⟩
  · rw [← Value.int.inj (Option.some.inj hr)]
    refine ⟨fun w3 => by omega, fun i x hi hx => ?_⟩
    rw [hi, Int.toNat_natCast]
    exact o3 i x hx
  · rw [← Value.int.inj (Option.some.inj hr)]
    refine ⟨fun _ => rfl, fun i x hi hx => ?_⟩
    have := (List.getElem?_eq_some_iff.mp hx).1
    omega
theorem Y_out (hL : LSr h s) (n : Int32) : PXr 149 [.ref 0, .int n] 269 [.ref 213, .int n] h True := by
  obtain ⟨P, hP, f0⟩ := cur_of hL.1.1
  obtain ⟨l, o1, o2⟩ : ∃ l : List Int, (∃ (z : zS) (C S : Nat), zI h z ∧ ((C = 3 ∧ S = 39) ∨ (C = 39 ∧ S = 3)) ∧ fld h 0 9 = some (.ref C) ∧ OUz z l) ∧ OUr s l := by
    obtain ⟨hS, z, C, S, q1, q2, q3, q4, q5, q6, -⟩ := hL
    obtain ⟨l, o1, o2⟩ := q6.1
    exact ⟨l, ⟨z, C, S, q1, q2, q3, o1⟩, o2⟩
  refine Y_keep (Rv := fun r => ouA l n r) hL K_149 (by decide) rfl rfl rfl rfl ⟨⟨0, rfl, cmem_ok rfl⟩, vK_int n, trivial⟩ rfl rfl rfl (EX_of hL.1.1 hL.1.2.2.2.2.2.2 (by decide) (cw_of f0) (zw_149 (d := 0) hP)) (fun v h1 cs sl e => hz_n (c' := []) hL.1.1 e (by decide +kernel) (by decide +kernel) (fun C z hC => zw_149 (d := 0) hC)) (r_keep (R_269 hL.1.2.2.1) (Tot_and (rk_269 hL.1.2.2.1) (re_269 hL.1.2.2.1)) (rv_269 o2)) (by decide) (fun x h1 cs sl e r hr _ => ?_)
  obtain ⟨z, C, S, q1, q2, q3, o1⟩ := o1
  obtain ⟨z1, ⟨r', hv, hx⟩, -⟩ := cz_of hL.1.1 q1 (cw_of q3) e (zv_149 (n := n) (by omega) o1)
  rw [Value.int.inj (Option.some.inj hv)]
  exact ouA_eq hx hr
theorem Y_print (hL : LSr h s) (n : Int32) : PXr 148 [.ref 0, .int n] 268 [.ref 213, .int n] h True := by
  obtain ⟨l1, l2, l3, l4, l5, l6, l7⟩ := id hL.1
  obtain ⟨hS, z, C, S, q1, q2, q3, q4, q5, q6, q7⟩ := id hL
  have hC : C = 3 ∨ C = 39 := by omega
  have g11 : (z.1 0 11).toInt = 0 ↔ (s.1 90).toInt = 0 := q5.1.2.1
  have g13 := q6.2.1
  have g91 := q6.2.2.1
  have key : ∃ (l : List Int) (b : Int), Zu 45 [(206, 3)] [(0, 9, C)] [] 148 [.ref 0, .int n] z (fun v z1 => ∃ x : Int32, v = some (.int x) ∧ x.toInt = b ∧ z1.1 105 13 = z.1 105 13 ∧ OUz z1 l) ∧ Par 67 268 [.ref 213, .int n] s (fun v s' => ∃ r : Int32, v = some (.int r) ∧ r.toInt = b ∧ OUr s' l) := by
    by_cases c0 : n.toInt = 0 ∧ ¬ (s.1 90).toInt = 0
    · obtain ⟨ar, nT, pw, A, k, nb, ⟨a1, a2⟩, ⟨a3, a4⟩, ⟨⟨a5, a5n⟩, a6, a7, a8⟩, ⟨a9, a10⟩, -⟩ := q6.2.2.2 c0.2
      have hx : (z.1 C 13).toInt ≤ 100000 := by
        have := a6.1
        omega
      refine ⟨ouT (txT ar pw A), ((ouT (txT ar pw A)).length : Int), Zu.imp (zs_148t (d := 0) hC c0.1 (fun w => c0.2 (g11.mp w)) a5 a3 a6 hx) ?_, Par.imp (x_268t (d := 67) a3 c0.1 c0.2 ⟨a6.2.2.1, fun c hc => ⟨(cd_cl a6.2.2.2.2 c hc).1, a6.2.2.2.1.2 c hc (cd_cl a6.2.2.2.2 c hc).2⟩⟩ a10 a9) ?_⟩
      · rintro v z1 ⟨rfl, g1, g2⟩
        exact ⟨_, rfl, g2.1, g1.2 105 13 (by decide), g2⟩
      · rintro v s' ⟨rfl, g1, g2⟩
        exact ⟨_, rfl, g2.1, g2⟩
    by_cases c1 : n.toInt = 1 ∧ (s.1 91).toInt = 0
    · have h90 : ¬ (s.1 90).toInt = 0 := fun w => g91 w c1.2
      obtain ⟨ar, nT, pw, A, k, nb, ⟨a1, a2⟩, ⟨a3, a4⟩, ⟨⟨a5, a5n⟩, a6, a7, a8⟩, ⟨a9, a10⟩, a11⟩ := q6.2.2.2 h90
      obtain ⟨vs, v, b1, b2, b3, b4, b5⟩ := a11 c1.2
      refine ⟨ouT (vtx ar pw vs v), ((ouT (vtx ar pw vs v)).length : Int), Zu.imp (zs_148v (d := 0) hC c1.1 (g13.mpr c1.2) a5 a3 b1 b3 b4) ?_, Par.imp (x_268v (d := 67) a3 a4 c1.1 h90 c1.2 b2 b3 b5 a9) ?_⟩
      · rintro v z1 ⟨rfl, g1, g2⟩
        exact ⟨_, rfl, g2.1, g1.2 105 13 (by decide), g2⟩
      · rintro v s' ⟨rfl, g1, g2⟩
        exact ⟨_, rfl, g2.1, g2⟩
    · obtain ⟨l, o1, o2⟩ := q6.1
      refine ⟨l, -1, Zu.imp (zs_148n (d := 0) hC (fun w => c0 ⟨w.1, fun w2 => w.2 (g11.mpr w2)⟩) (fun w => c1 ⟨w.1, g13.mp w.2⟩)) ?_, Par.imp (x_268n (d := 67) c0 (fun w => c1 ⟨w.1, w.2.2⟩)) ?_⟩
      · rintro v z1 ⟨rfl, rfl⟩
        exact ⟨_, rfl, by decide, rfl, o1⟩
      · rintro v s' ⟨rfl, rfl⟩
        exact ⟨_, rfl, by decide, OUr_k ⟨rfl, rfl⟩ o2⟩
  obtain ⟨l, b, kz, kr⟩ := key
  obtain ⟨v, h', cs, sl, e, e2, e3⟩ := K_148 h [.ref 0, .int n] l1 ⟨⟨0, rfl, cmem_ok rfl⟩, vK_int n, trivial⟩
  obtain ⟨u, rfl, x, rfl, -⟩ := (show rOK (some kint) v from e2)
  have e' := yex_mono (show _ ≤ 1514 by decide) _ _ _ _ e
  have hrc : rc h' 1 = rc h 1 := e3.2.1.1.2.2.resolve_left (wmem_no rfl)
  have f9 : fld h' 0 9 = some (.ref C) := (e3.2.1.2 0 9 (by decide) (wmem_no (by rw [show wc 0 = 11 by decide +kernel]; rfl))).trans q3
  have f10 : fld h' 0 10 = some (.ref S) := (e3.2.1.2 0 10 (by decide) (wmem_no (by rw [show wc 0 = 11 by decide +kernel]; rfl))).trans q4
  have hEX : EXh h' := EX_of l1 l7 (by decide) (cw_of q3) (zw_148 (d := 0) hC) _ _ _ _ e'
  obtain ⟨z1, ⟨x', hx, hxb, h13, ou⟩, zi, pv, -⟩ := cz_of l1 q1 (cw_of q3) e' kz
  have n99 : ¬ (C, 99) ∈ wrt [(0, 9, C)] 148 [.ref 0, .int n] := wrt_n hC (by decide +kernel) 99
  have n98 : ¬ (C, 98) ∈ wrt [(0, 9, C)] 148 [.ref 0, .int n] := wrt_n hC (by decide +kernel) 98
  have n1 : ¬ (0, 111) ∈ wrt [(0, 9, C)] 148 [.ref 0, .int n] := fun w => absurd (show (0, 111) ∈ [(0, 207)] from w) (by decide)
  have hK : PZk C z z1 := PZ_v hC pv n99 n98 n1
  have hT := Tot_par (Tot_and (R_268 l3) (Tot_and (rk_268 l3) (re_268 (a := n) l3))) (Nat.le_refl _) kr
  refine pair_r (R := fun r s' => (s'.1 2 = s.1 2 ∧ s'.2.1 214 = s.2.1 214) ∧ (RKq s s' ∧ RKo s s') ∧ r.toInt = b ∧ OUr s' l) hS e' (cp_of e3 (JJ_fr e3 rfl l2)) ((z_fr e3 rfl).trans l5) hEX (Tot.imp hT ?_) (by decide) (fun r s' g => ⟨g.1.1.symm, fun j hj => ?_, fun _ => ?_⟩) (fun r s' g _ => ?_)
  · rintro v s' ⟨⟨⟨⟨r, rfl⟩, g2, g3⟩, g4, g5⟩, r', w1, w2, w3⟩
    cases w1
    exact ⟨r, rfl, ⟨g2, ⟨g4, g5⟩, w2, w3⟩, g3⟩
  · rw [rv_same hrc j, g.1.2]
    exact l6 j (by rw [← g.1.1]; exact hj)
  · rw [Value.int.inj (Option.some.inj hx)]
    exact Int32.toInt_inj.mp (hxb.trans g.2.2.1.symm)
  · obtain ⟨-, ⟨r, ro⟩, -, o2⟩ := g
    refine ⟨z1, C, S, zi, q2, f9, f10, ?_, LPe_o hC h13 ro.1 q6 (fun _ => hK) ⟨l, ou, o2⟩, MKl_k (KZ_of rfl q1 zi e3 197 8 (by decide)) (KZ_of rfl q1 zi e3 197 9 (by decide)) (MZ_v pv (fun w => absurd (show (0, 198) ∈ [(0, 207)] from w) (by decide))) r.1.2.1 ro.2 q7⟩
    refine LP_k (KZ_o (KZ_of rfl q1 zi e3)) r.1 (fun _ w => RCn_k l3 r.1.1 (fun nb w1 _ => r.2.1 nb w1) w) q5 (fun w => ?_)
    obtain ⟨K, L, Wf, ar, n', m, g1, g2⟩ := q5.2 w
    exact ⟨K, L, Wf, ar, n', m, PL_n hC (fvq_of hC pv) n99 n98 ⟨rfl, rfl⟩ g1, RL_k g1.1 l3 r.1.1 (fun nb w1 _ w3 => r.2.2 nb w1 w3) (fun nb w1 _ => r.2.1 nb w1) g2⟩
end ZWH
