/-! ===== instances, made: class and reference answer alike ===== -/
section ZWJ0
variable {ar : Int → Int} {nT : Int} {wr hw : Nat → Int} {Hk : Nat} {fx : Int → Int → Int} {Dr : Mit → Prop} {Bd : Prop} {its : List Mit} {s s' : yS} {z : zS} {d P : Nat} {a1 : Int32}
/-- how many rows of a sort there are below n -/
def cnT (s : yS) (k : Int) (n : Nat) : Nat := ((List.range n).filter (fun i => decide ((s.2.1 279 i).toInt = k))).length
theorem cnT_s {k : Int} {n : Nat} : cnT s k (n + 1) = cnT s k n + (if (s.2.1 279 n).toInt = k then 1 else 0) := by
  unfold cnT
  rw [List.range_succ, List.filter_append, List.length_append]
  congr 1
  by_cases e : (s.2.1 279 n).toInt = k
  · rw [if_pos e, List.filter_cons_of_pos (p := fun i => decide ((s.2.1 279 i).toInt = k)) (a := n) (decide_eq_true e)]
    rfl
  · rw [if_neg e, List.filter_cons_of_neg (p := fun i => decide ((s.2.1 279 i).toInt = k)) (a := n) (fun w => e (of_decide_eq_true w))]
    rfl
/-- the rows of a sort are the items of that sort -/
theorem cn7_of {k : Nat} (hI : RIl ar nT wr hw Hk fx Dr Bd its s) : cn7 s (k : Int) = (ofS k its).length := by
  obtain ⟨⟨n1, -⟩, -, n3, -⟩ := hI
  have key : ∀ n : Nat, n ≤ its.length → cnT s (k : Int) n = (ofS k (its.take n)).length := by
    intro n
    induction n with
    | zero => exact fun _ => rfl
    | succ n ih =>
      intro hn
      have ih := ih (by omega)
      have hl : n < its.length := by omega
      obtain ⟨x, hx⟩ : ∃ x, its[n]? = some x := ⟨_, List.getElem?_eq_getElem hl⟩
      obtain ⟨E, -, -, -, ⟨v1, -⟩, -⟩ := n3 n x hx
      have et : its.take (n + 1) = its.take n ++ [x] := by
        rw [List.take_add_one, hx]
        rfl
      have e2 : (ofS k (its.take (n + 1))).length = (ofS k (its.take n)).length + (if x.1 = k then 1 else 0) := by
        unfold ofS
        rw [et, List.filter_append, List.length_append]
        congr 1
        by_cases e : x.1 = k
        · rw [if_pos e, List.filter_cons_of_pos (p := fun y : Mit => decide (y.1 = k)) (a := x) (decide_eq_true e)]
          rfl
        · rw [if_neg e, List.filter_cons_of_neg (p := fun y : Mit => decide (y.1 = k)) (a := x) (fun w => e (of_decide_eq_true w))]
          rfl
      rw [cnT_s, ih, e2]
      by_cases e : x.1 = k
      · rw [if_pos e, if_pos (by omega)]
      · rw [if_neg e, if_neg (by omega)]
  have e1 : (s.1 112).toInt.toNat = its.length := by omega
  show cnT s (k : Int) (s.1 112).toInt.toNat = _
  rw [e1, key _ (Nat.le_refl _), List.take_length]
/-- howMany -/
theorem x_258g (h0 : 0 ≤ (s.1 112).toInt) : Par d 258 [.ref 213, .int a1] s (fun v s' => s' = s ∧ ∃ r : Int32, v = some (.int r) ∧ r.toInt = (cn7 s a1.toInt : Int)) := by
  cases d with
  | zero => exact Par_0
  | succ d =>
    have z0 : (0 : Int32).toInt = 0 := by decide
    have z1 : (1 : Int32).toInt = 1 := by decide
    refine pb_258 ?_
    unfold ub_258_0
    refine ⟨fun b1 b2 b3 u => a1 = b1 ∧ s = u ∧ ∃ i : Nat, b3.toInt = (i : Int) ∧ (i : Int) ≤ (s.1 112).toInt ∧ b2.toInt = (cnT s a1.toInt i : Int), ⟨rfl, rfl, 0, by decide, by omega, by show (0 : Int32).toInt = ((0 : Nat) : Int); decide⟩, ?_⟩
    rintro b1 b2 b3 u ⟨e1, e2, i, i1, i2, i3⟩
    subst e1 e2
    have hs := cnT_s (s := s) (k := a1.toInt) (n := i)
    unfold ub_258_4
    refine ⟨fun hend => ⟨rfl, b2, rfl, ?_⟩, fun hlt _ => ?_⟩
    · have ei : (s.1 112).toInt.toNat = i := by omega
      show b2.toInt = (cnT s a1.toInt (s.1 112).toInt.toNat : Int)
      rw [ei]
      exact i3
    · rw [show b3.toInt.toNat = i by omega]
      unfold ub_258_18
      refine ⟨fun hne _ x1 hx1 _ x2 hx2 => ⟨rfl, rfl, i + 1, by omega, by omega, ?_⟩, fun he _ x1 hx1 _ x2 hx2 => ⟨rfl, rfl, i + 1, by omega, by omega, ?_⟩⟩
      · rw [hs, if_neg hne]
        omega
      · rw [hs, if_pos he]
        omega
/-- what made answers, in the reference -/
def mdR (s : yS) (n : Int) : Int := if (s.1 90).toInt = 0 ∨ (s.1 109).toInt < 0 ∨ n < 0 ∨ 2 < n then -1 else (cn7 s n : Int)
/-- made -/
theorem x_259 (h0 : 0 ≤ (s.1 112).toInt) : Par d 259 [.ref 213, .int a1] s (fun v _ => ∃ r : Int32, v = some (.int r) ∧ r.toInt = mdR s a1.toInt) := by
  cases d with
  | zero => exact Par_0
  | succ d =>
    have m1 : (-1 : Int32).toInt = -1 := by decide
    refine pb_259 ?_
    unfold ub_259_0 ub_259_14 ub_259_19
    intro s1 hs1
    have F1 : ∀ q, s1.1 q = if q = 0 then 0 else s.1 q := fun q => by rw [hs1, sfr_1]
    have r1 : s1.2 = s.2 := by rw [hs1, sfr_2]
    have k90 : s1.1 90 = s.1 90 := by rw [F1, if_neg (by decide)]
    have k109 : s1.1 109 = s.1 109 := by rw [F1, if_neg (by decide)]
    have k112 : s1.1 112 = s.1 112 := by rw [F1, if_neg (by decide)]
    rw [k90, k109]
    have bad : ((s.1 90).toInt = 0 ∨ (s.1 109).toInt < 0 ∨ a1.toInt < 0 ∨ 2 < a1.toInt) → ∃ r : Int32, (some (.int (-1)) : Option Value) = some (.int r) ∧ r.toInt = mdR s a1.toInt := fun w => ⟨_, rfl, by
      unfold mdR
      rw [if_pos w]
      exact m1⟩
    refine ⟨fun w => bad (Or.inl w), fun w1 => ⟨fun w => bad (Or.inr (Or.inl w)), fun w2 => ⟨fun w => bad (Or.inr (Or.inr (Or.inl w))), fun w3 => ⟨fun w4 => ?_, fun w => bad (Or.inr (Or.inr (Or.inr (by omega))))⟩⟩⟩⟩
    refine Par.imp (x_258g (by rw [k112]; exact h0)) ?_
    rintro v s2 ⟨-, r, rfl, hr⟩
    refine ⟨r, rfl, r, rfl, ?_⟩
    have e : cn7 s1 a1.toInt = cn7 s a1.toInt := by
      unfold cn7
      rw [k112, r1]
    unfold mdR
    rw [if_neg (by omega), hr, e]
/-- instances, where there is nothing to be made -/
theorem x_257n (h0 : (s.1 90).toInt = 0 ∨ ¬ (s.1 110).toInt = 0) : Par d 257 [.ref 213] s (fun v s' => s' = sf s 0 0 ∧ ∃ r : Int32, v = some (.int r) ∧ r.toInt = if (s.1 90).toInt = 0 then -1 else (s.1 109).toInt) := by
  cases d with
  | zero => exact Par_0
  | succ d =>
    refine pb_257 ?_
    unfold ub_257_0
    intro s1 hs1
    have F1 : ∀ q, s1.1 q = if q = 0 then 0 else s.1 q := fun q => by rw [hs1, sfr_1]
    have k90 : s1.1 90 = s.1 90 := by rw [F1, if_neg (by decide)]
    have k110 : s1.1 110 = s.1 110 := by rw [F1, if_neg (by decide)]
    have k109 : s1.1 109 = s.1 109 := by rw [F1, if_neg (by decide)]
    rw [k90, k110, k109]
    refine ⟨fun h90 => ⟨fun h110 => ?_, fun h110 => ⟨hs1, _, rfl, by rw [if_neg h90]⟩⟩, fun h90 => ⟨hs1, _, rfl, by rw [if_pos h90]; decide⟩⟩
    exact (h0.elim h90 (fun w => w h110)).elim
/-- instances of the class, where nothing is loaded -/
theorem zn_145 (hP : P = 3 ∨ P = 39) (h : (z.1 0 11).toInt = 0) : Zu (d + 72) [(75, 0), (75, 1), (75, 2), (197, 5), (197, 6)] [(0, 9, P)] [] 145 [.ref 0] z (fun v z1 => z1 = z ∧ v = some (.int (-1))) := by
  refine zc_145 (d := d + 63) hP ?_
  unfold v_145_0
  exact ⟨fun w => absurd h w, fun _ => ⟨rfl, rfl⟩⟩
/-- both count alike -/
theorem md_eq (g : MKl z s) (n : Int) : mdZ z n = mdR s n := by
  unfold mdZ mdR
  rcases g with ⟨-, g1, g2⟩ | ⟨⟨-, -, g90⟩, ⟨g1, g2⟩ | ⟨g9, g0, g1, g2, g3⟩⟩
  · rw [if_pos g1, if_pos (Or.inr (Or.inl (by omega)))]
  · rw [if_pos g1, if_pos (Or.inr (Or.inl (by omega)))]
  · rw [if_neg g9]
    by_cases n0 : n = 0
    · rw [if_pos n0, if_neg (by omega), n0]
      exact g0
    · rw [if_neg n0]
      by_cases n1 : n = 1
      · rw [if_pos n1, if_neg (by omega), n1]
        omega
      · rw [if_neg n1]
        by_cases n2 : n = 2
        · rw [if_pos n2, if_neg (by omega), n2]
          omega
        · rw [if_neg n2, if_pos (by omega)]
theorem md_2 (g : MKl z s) (h8 : ¬ (z.1 197 8).toInt = 0) : ¬ (s.1 110).toInt = 0 ∧ (s.1 109).toInt = mdZ z 2 := by
  unfold mdZ
  rcases g with ⟨⟨g8, -⟩, -⟩ | ⟨⟨-, g10, -⟩, ⟨g1, g2⟩ | ⟨g9, -, -, g2, g3⟩⟩
  · exact absurd g8 h8
  · exact ⟨g10, by rw [if_pos g1]; exact g2⟩
  · refine ⟨g10, ?_⟩
    rw [if_neg g9, if_neg (by decide), if_neg (by decide), if_pos rfl]
    omega
theorem MKl_n (g : MKl z s) (w : ¬ (z.1 197 9).toInt = 0) : 0 ≤ (z.1 200 2).toInt ∧ 0 ≤ (z.1 202 2).toInt := by
  rcases g with ⟨-, g1, -⟩ | ⟨-, ⟨g1, -⟩ | ⟨-, -, g1, g2, -⟩⟩
  · exact absurd g1 w
  · exact absurd g1 w
  · exact ⟨by omega, by omega⟩
end ZWJ0
section ZWJ
variable {h : xH} {s : yS}
theorem Y_made (hL : LSr h s) (n : Int32) : PXr 146 [.ref 0, .int n] 259 [.ref 213, .int n] h True := by
  obtain ⟨P, hP, f0⟩ := cur_of hL.1.1
  obtain ⟨nb, -, -, -, -, -, -, -, a8, -⟩ := id hL.1.2.2.1
  have hr : Tot 2 259 [.ref 213, .int n] s (fun v _ => ∀ r : Int32, v = some (.int r) → r.toInt = mdR s n.toInt) := Tot.imp (Tot_par (R_259 (a1 := n) hL.1.2.2.1) (Nat.le_refl 2) (x_259 (a1 := n) a8.1)) (fun v s' q r e => by
    obtain ⟨-, r', e', hr'⟩ := q
    rw [e'] at e
    rw [← Value.int.inj (Option.some.inj e)]
    exact hr')
  refine Y_keep (Rv := fun r => r.toInt = mdR s n.toInt) hL K_146 (by decide) rfl rfl rfl rfl ⟨⟨0, rfl, cmem_ok rfl⟩, vK_int n, trivial⟩ rfl rfl rfl (EX_of hL.1.1 hL.1.2.2.2.2.2.2 (by decide) (cw_of f0) (zw_146 (d := 0) hP)) (fun v h1 cs sl e => hz_n (c' := []) hL.1.1 e (by decide +kernel) (by decide +kernel) (fun C z hC => zw_146 (d := 0) hC)) (r_keep (R_259 hL.1.2.2.1) (Tot_and (rk_259 hL.1.2.2.1) (re_259 hL.1.2.2.1)) hr) (by decide) (fun x h1 cs sl e r hr _ => ?_)
  obtain ⟨hS, z, C, S, q1, q2, q3, q4, q5, q6, q7⟩ := hL
  obtain ⟨z1, ⟨-, r', hv, hx⟩, -⟩ := cz_of hS.1 q1 (cw_of q3) e (zi_146 (d := 0) (a1 := n) (by omega) (MKl_n q7))
  rw [Value.int.inj (Option.some.inj hv)]
  exact Int32.toInt_inj.mp ((hx.trans (md_eq q7 n.toInt)).trans hr.symm)
theorem zwj_b {nb S O N : Nat} {Ag A1 : Int} (h : nb < 2) (hA : Ag ≤ 10 + 4100 * (nb : Int) + 4100) (hA1 : A1 ≤ 10 + 4100 * (nb : Int) + 4100) (h5 : S ≤ 10 + 4100 * (nb + 1)) (h6 : O ≤ 60000 * (nb + 1)) (h7 : N ≤ 4002 * nb + 2760) : Ag ≤ 13000 ∧ A1 ≤ 13000 ∧ S ≤ 8210 ∧ O ≤ 120000 ∧ N ≤ 12006 := by
  have : nb = 0 ∨ nb = 1 := by omega
  rcases this with rfl | rfl <;> omega
set_option maxRecDepth 20000 in
set_option maxHeartbeats 4000000 in
theorem Y_instances (hL : LSr h s) : PXr 145 [.ref 0] 257 [.ref 213] h True := by
  obtain ⟨l1, l2, l3, l4, l5, l6, l7⟩ := id hL.1
  obtain ⟨hS, z, C, S, q1, q2, q3, q4, q5, q6, q7⟩ := id hL
  have hC : C = 3 ∨ C = 39 := by omega
  have g11 : (z.1 0 11).toInt = 0 ↔ (s.1 90).toInt = 0 := q5.1.2.1
  have hN := sn_z l7 q1
  obtain ⟨v, h', cs, sl, e, e2, e3⟩ := K_145 h [.ref 0] l1 ⟨⟨0, rfl, cmem_ok rfl⟩, trivial⟩
  obtain ⟨u, rfl, x, rfl, -⟩ := (show rOK (some kint) v from e2)
  have e' := yex_mono (show _ ≤ 1514 by decide) _ _ _ _ e
  have hrc : rc h' 1 = rc h 1 := e3.2.1.1.2.2.resolve_left (wmem_no rfl)
  have f9 : fld h' 0 9 = some (.ref C) := (e3.2.1.2 0 9 (by decide) (wmem_no (by rw [show wc 0 = 11 by decide +kernel]; rfl))).trans q3
  have f10 : fld h' 0 10 = some (.ref S) := (e3.2.1.2 0 10 (by decide) (wmem_no (by rw [show wc 0 = 11 by decide +kernel]; rfl))).trans q4
  have hEX : EXh h' := EX_of l1 l7 (by decide) (cw_of q3) (zw_145 (d := 0) hC (SN_st l7)) _ _ _ _ e'
  have fin : ∀ z1 : zS, zI h' z1 → OZo z z1 → (¬ (s.1 90).toInt = 0 → PZk C z z1 ∧ ∃ (K L W ar : Int → Int) (n m : Int), PLz K L W ar n m C (gz z1) z1 ∧ RLq K L W ar n m s) → Par 514 257 [.ref 213] s (fun v s' => ∃ r : Int32, v = some (.int r) ∧ r = x ∧ MKl z1 s') → PXr 145 [.ref 0] 257 [.ref 213] h True := fun z1 zi oz hp kr => by
    have hT := Tot_par (Tot_and (R_257 l3) (Tot_and (rk_257 l3) (re_257 l3))) (Nat.le_refl _) kr
    have ic : KZo z z1 := fun a k hk => by
      rcases hk with ⟨rfl, rfl | rfl⟩ | ⟨rfl, rfl | rfl | rfl | rfl⟩
      · exact ic_of (by decide +kernel) (by decide +kernel) q1 zi e3
      · exact ic_of (by decide +kernel) (by decide +kernel) q1 zi e3
      · exact ic_of (by decide +kernel) (by decide +kernel) q1 zi e3
      · exact ic_of (by decide +kernel) (by decide +kernel) q1 zi e3
      · exact ic_of (by decide +kernel) (by decide +kernel) q1 zi e3
      · exact ic_of (by decide +kernel) (by decide +kernel) q1 zi e3
    refine pair_r (R := fun r s' => (s'.1 2 = s.1 2 ∧ s'.2.1 214 = s.2.1 214) ∧ (RKq s s' ∧ RKe0 s s') ∧ r = x ∧ MKl z1 s') hS e' (cp_of e3 (JJ_fr e3 rfl l2)) ((z_fr e3 rfl).trans l5) hEX (Tot.imp hT ?_) (by decide) (fun r s' g => ⟨g.1.1.symm, fun j hj => ?_, fun _ => g.2.2.1.symm⟩) (fun r s' g _ => ?_)
    · rintro v s' ⟨⟨⟨⟨r, rfl⟩, g2, g3⟩, g4, g5⟩, r', w1, w2, w3⟩
      cases w1
      exact ⟨r, rfl, ⟨g2, ⟨g4, g5⟩, w2, w3⟩, g3⟩
    · rw [rv_same hrc j, g.1.2]
      exact l6 j (by rw [← g.1.1]; exact hj)
    · obtain ⟨-, ⟨r, ro⟩, -, mk⟩ := g
      refine ⟨z1, C, S, zi, q2, f9, f10, LP_k ic r.1 (fun _ w => RCn_k l3 r.1.1 (fun nb w1 _ => r.2.1 nb w1) w) q5 (fun w => ?_), LPe_k hC (ic 105 13 (by decide)) oz ro q6 (fun w => (hp w).1), mk⟩
      obtain ⟨-, K, L, Wf, ar, n, m, g1, g2⟩ := hp w
      exact ⟨K, L, Wf, ar, n, m, g1, RL_k g1.1 l3 r.1.1 (fun nb w1 _ w3 => r.2.2 nb w1 w3) (fun nb w1 _ => r.2.1 nb w1) g2⟩
  by_cases h90 : (s.1 90).toInt = 0
  · obtain ⟨z1, ⟨ez, hx⟩, zi, -, -⟩ := cz_of l1 q1 (cw_of q3) e' (zn_145 (d := 0) hC (g11.mpr h90))
    rw [ez] at zi
    refine fin z zi ⟨rfl, rfl⟩ (fun w => absurd h90 w) (Par.imp (x_257n (Or.inl h90)) ?_)
    rintro v s' ⟨es, r, rfl, hr⟩
    rw [if_pos h90] at hr
    refine ⟨r, rfl, ?_, ?_⟩
    · rw [Value.int.inj (Option.some.inj hx)]
      exact Int32.toInt_inj.mp (hr.trans (by decide))
    · rw [es]
      exact MKl_k rfl rfl ⟨rfl, rfl, rfl⟩ rfl RKe_0.2 q7
  have h11 : ¬ (z.1 0 11).toInt = 0 := fun w => h90 (g11.mp w)
  obtain ⟨K, L, Wf, ar, n', m, g1, g2⟩ := q5.2 h90
  obtain ⟨c1, ⟨c2, c3⟩, k0, k, zz, G, hSz⟩ := id g1
  obtain ⟨z1, ⟨mk, G1, r0, hv, hI⟩, zi, pv, -⟩ := cz_of l1 q1 (cw_of q3) e' (zi_145 (d := 0) hC c1 c2 c3 G hSz hN (fun _ => MKl_n q7))
  have ex : r0 = x := (Value.int.inj (Option.some.inj hv)).symm
  rw [ex] at hI
  have eg : gz z1 = gz z := Prod.ext G1.2.2.2.2.2.1 G1.2.2.2.2.2.2
  have hK : PZk C z z1 := by
    refine ⟨⟨fun a ha => ?_, mk.1 111 (by omega) (by decide) (by decide) (by decide) (by decide) (by decide) (by decide) (by decide)⟩, fun q hq => mk.2.1 q (by omega), mk.2.2 C 10 (by omega) (by omega) (fun w => by omega) (fun w => by omega) (fun w => by omega), mk.2.2 C 13 (by omega) (by omega) (fun w => by omega) (fun w => by omega) (fun w => by omega), mk.2.2 105 14 (by decide) (by decide) (fun w => by omega) (fun w => by omega) (fun w => by omega)⟩
    have b := pTb_b ha
    exact ⟨mk.1 a b.2.2.1 (by omega) (by omega) (by omega) (by omega) (by omega) (by omega) (by omega), mk.2.2 a 2 (by omega) (by omega) (fun w => by omega) (fun w => by omega) (fun w => by omega)⟩
  have hPL : PLz K L Wf ar n' m C (gz z1) z1 := ⟨c1, ⟨c2, c3⟩, k0, k, zz, by rw [eg]; exact G1, by rw [mk.2.2 (C + 34) 2 (by omega) (by omega) (fun w => by omega) (fun w => by omega) (fun w => by omega)]; exact hSz⟩
  have hO : OZo z z1 := OZ_v pv (by rcases hC with rfl | rfl <;> decide +kernel)
  have hp : ¬ (s.1 90).toInt = 0 → PZk C z z1 ∧ ∃ (K L W ar : Int → Int) (n m : Int), PLz K L W ar n m C (gz z1) z1 ∧ RLq K L W ar n m s := fun _ => ⟨hK, K, L, Wf, ar, n', m, hPL, g2⟩
  rcases hI with ⟨i1, -⟩ | ⟨-, i8, iz, ix⟩ | ⟨-, i8, j8, ⟨Z0, M0⟩, ix⟩
  · exact absurd i1 h11
  · obtain ⟨m10, m9⟩ := md_2 q7 i8
    refine fin z1 zi hO hp (Par.imp (x_257n (Or.inr m10)) ?_)
    rintro v s' ⟨es, r, rfl, hr⟩
    rw [if_neg h90] at hr
    refine ⟨r, rfl, Int32.toInt_inj.mp ((hr.trans m9).trans ix.symm), ?_⟩
    rw [es, iz]
    exact MKl_k rfl rfl ⟨rfl, rfl, rfl⟩ rfl RKe_0.2 q7
  have h110 : (s.1 110).toInt = 0 := by
    rcases q7 with ⟨⟨-, w⟩, -⟩ | ⟨⟨w, -⟩, -⟩
    · exact w
    · exact absurd i8 w
  obtain ⟨nb, a1, a2, -, -, -, -, -, -, a9, -⟩ := id l3
  obtain ⟨⟨own, n, W, N, T, F, H, S0, G0, S', O, k1, k2, k3, k4, k5, k6, k7, -⟩, -⟩ := a9 h90
  obtain ⟨⟨d1, d2⟩, hFO, hmP, hmX, hm0, hmn⟩ := g2
  unfold RCn at d2
  rw [a2] at d1 d2
  rw [Int.toNat_natCast] at d2
  obtain ⟨d21, d22⟩ := d2
  obtain ⟨Ag, A0, A1, ⟨hA, hA0, hA1⟩, ⟨t1, t2, t3, t4⟩, ⟨t5, t6⟩, hE, xm, ym, -, hEm⟩ := d1
  rw [Int.toNat_natCast] at hEm
  obtain ⟨-, -, -, -, -, r33, r52, -⟩ := k1.1
  have eT : (T : Int) = ((tnF K (lsF K L)).length : Int) := by omega
  have eF : F = kFn K (lsF K L) := by omega
  have hTW : TWd K L Wf ar (kdF K L (lsF K L)) (tnF K (lsF K L)) (lsF K L) n' 0 m own nb n N T F H S0 G0 Ag s := ⟨c1, t1, k1, eT, eF, t3, t6⟩
  obtain ⟨bA, bA1, bS, bO, bN⟩ := zwj_b a1 hA hA1 k5 k6 k7
  obtain ⟨hW, hMn, hgd⟩ := wld_of (Z0 := Z0) hTW bA hFO k3 k4 bN bO bS a1 c2 c3 bA1 (fun i t h1 h6 => by
    obtain ⟨x', y', -, w⟩ := hE i t h1 h6
    exact ⟨x', y', w⟩) hEm hmP hmX hm0 hmn
  refine fin z1 zi hO hp (Par.imp (x_257 (d := 514) (fun _ => ⟨⟨k1, k4, a2⟩, hW, hMn, hgd⟩)) ?_)
  rintro v s' ⟨r, rfl, ⟨w, -⟩ | ⟨-, w, -⟩ | ⟨-, -, hJ, s110, er, its, ls, hR, hM, hlast⟩⟩
  · exact absurd w h90
  · exact absurd h110 w
  obtain ⟨ts, cs', ms, ⟨e1, e2', e3'⟩, h01, hM0⟩ := M0
  obtain ⟨E1, E2⟩ := MkO_eq (mv := fun A t => mvD K L Wf ar (kdF K L (lsF K L)) (tnF K (lsF K L)) (lsF K L) A A t) hM0 hM
  have s90 : ¬ (s'.1 90).toInt = 0 := by
    rw [hJ.1 90 (by decide)]
    exact h90
  by_cases ok : (z1.1 197 9).toInt = 1
  · obtain ⟨n0, n1, n2⟩ := E2 ok
    obtain ⟨el, e9⟩ := hlast (E1.mp ok)
    rw [List.length_map, el] at n0 n1 n2
    have b0 : cn7 s' 0 = (ofS 0 its).length := cn7_of (k := 0) hR
    have b1 : cn7 s' 1 = (ofS 1 its).length := cn7_of (k := 1) hR
    have b2 : cn7 s' 2 = (ofS 2 its).length := cn7_of (k := 2) hR
    refine ⟨r, rfl, Int32.toInt_inj.mp ?_, Or.inr ⟨⟨by omega, by omega, s90⟩, Or.inr ⟨by omega, by rw [b0]; omega, by rw [b1]; omega, by rw [b2]; omega, by rw [b2]; exact e9⟩⟩⟩
    rw [er, e9, ix]
    unfold mdZ
    rw [if_neg (by omega), if_neg (by decide), if_neg (by decide), if_pos rfl]
    omega
  · have s9 : (s'.1 109).toInt = -1 := Decidable.byContradiction fun w => ok (E1.mpr w)
    have z9 : (z1.1 197 9).toInt = 0 := h01.resolve_right ok
    refine ⟨r, rfl, Int32.toInt_inj.mp ?_, Or.inr ⟨⟨by omega, by omega, s90⟩, Or.inl ⟨z9, s9⟩⟩⟩
    rw [er, s9, ix]
    unfold mdZ
    rw [if_pos z9]
end ZWJ
