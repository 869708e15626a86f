/-! ===== the reference: instances: what is put; putFor, addTypes ===== -/
/-- env ev: the TYPES put for PARAMS, all above the rows -/
def EVn (ar : Int → Int) (s : yS) (e : Nat) (T β0 β1 : Int) (Ev : Env) : Prop := ∃ c0 c1 : Int, EVr s e T c0 (Ev.1.map (enI ar)) c1 (Ev.2.map (enI ar)) ∧ (Ev = ([], []) ∨ (c0 = β0 ∧ c1 = β1 ∧ bOK β0 β1)) ∧ (∀ i : Nat, i < Ev.1.length → 100000 ≤ (s.2.1 267 (12 * e + i)).toInt) ∧ ∀ i : Nat, i < Ev.2.length → 100000 ≤ (s.2.1 267 (12 * e + 6 + i)).toInt
section ZVT
variable {ar : Int → Int} {nT : Int} {wr hw : Nat → Int} {H : Nat} {fx : Int → Int → Int} {Dr : Mit → Prop} {Bd : Prop} {its : List Mit} {s s' u w : yS} {T T' β0 β1 : Int} {E : List Int} {A D : List Int} {d e : Nat} {a1 a2 : Int32} {Ev : Env}
theorem enI_map {A : List Int} (h : ∀ c ∈ A, c < 24) : A.map (rhE ar β0 β1) = enI ar A := List.map_congr_left (fun c hc => by rw [rhE_0 (h c hc), rhE_0 (h c hc)])
theorem EVn_T (hT : T ≤ T') (h : EVn ar s e T β0 β1 Ev) : EVn ar s e T' β0 β1 Ev := by
  obtain ⟨c0, c1, h1, h2⟩ := h
  exact ⟨c0, c1, EVr_T hT h1, h2⟩
theorem EVn_j (h : IFj T s s') (g : EVn ar s e T β0 β1 Ev) : EVn ar s' e T β0 β1 Ev := by
  obtain ⟨c0, c1, ⟨⟨g1, g2, g3⟩, g4, g5, g6⟩, g7, g8, g9⟩ := g
  have r : ∀ q j, (264 < q ∧ q < 279) → s'.2.1 q j = s.2.1 q j := fun q j hq => h.2.2.1 q j (by omega)
  refine ⟨c0, c1, ⟨⟨by rw [r 265 _ (by decide)]; exact g1, by rw [r 266 _ (by decide)]; exact g2, fun i Z hi hZ => ?_⟩, by rw [r 265 _ (by decide)]; exact g4, by rw [r 266 _ (by decide)]; exact g5, fun i Z hi hZ => ?_⟩, g7, fun i hi => by rw [r 267 _ (by decide)]; exact g8 i hi, fun i hi => by rw [r 267 _ (by decide)]; exact g9 i hi⟩
  · obtain ⟨x, k1, k2, k3, k4⟩ := g3 i Z hi hZ
    rw [List.length_map] at hi
    have := g8 i hi
    rw [show 12 * e + i = 6 * (2 * e) + i by omega, k1] at this
    exact ⟨x, by rw [r 267 _ (by decide)]; exact k1, by rw [r 268 _ (by decide)]; exact k2, k3, IFj_el h k3.1 (Or.inr ⟨this, k3.2⟩) k4⟩
  · obtain ⟨x, k1, k2, k3, k4⟩ := g6 i Z hi hZ
    rw [List.length_map] at hi
    have := g9 i hi
    rw [show 12 * e + 6 + i = 6 * (2 * e + 1) + i by omega, k1] at this
    exact ⟨x, by rw [r 267 _ (by decide)]; exact k1, by rw [r 268 _ (by decide)]; exact k2, k3, IFj_el h k3.1 (Or.inr ⟨this, k3.2⟩) k4⟩
/-- what the env makes of a TYPE -/
theorem put_rp {c0 c1 : Int} (ha : ∀ c, 0 ≤ ar c ∧ ar c ≤ 7) (hE : enK ar nT Ev) (hc : Ev = ([], []) ∨ (c0 = β0 ∧ c1 = β1 ∧ bOK β0 β1)) (hD : TGo ar nT (Ev.1.length : Int) (Ev.2.length : Int) D) : (D.map (rhE ar β0 β1)).flatMap (rpt c0 (Ev.1.map (enI ar)) c1 (Ev.2.map (enI ar))) = enI ar (sbs (eta Ev.1 Ev.2) D) := by
  rcases hc with rfl | ⟨rfl, rfl, hb⟩
  · have cl : ∀ c ∈ D, c < 24 := fun c hc => (cd_cl hD.2.2 c hc).2
    rw [sbs_cl cl]
    show (D.map (rhE ar β0 β1)).flatMap (rpt c0 [] c1 []) = enI ar D
    rw [rpt_nil, enI_map cl]
  · exact enc_put (β0 := 1000) (β1 := 2000) ha hb hE.1.1 D hD.2.2 (fun c hc => by
      obtain ⟨h1, h2, h3, h4⟩ := hD.2.2 c hc
      refine ⟨fun w1 w2 => ?_, fun w1 => ?_⟩
      · have := h3 w1 w2
        unfold eta
        rw [if_pos (by omega), if_pos (by omega)]
      · have := h4 w1
        unfold eta
        rw [if_neg (by omega), if_pos (by omega), show (c - 24).toNat - 6 = (c - 30).toNat by omega])
theorem TGo_sb (h24 : ∀ c, 24 ≤ c → ar c = 0) (hE : enK ar nT Ev) (hD : TGo ar nT (Ev.1.length : Int) (Ev.2.length : Int) D) (h : (sbs (eta Ev.1 Ev.2) D).length ≤ 60) : TGo ar nT 0 0 (sbs (eta Ev.1 Ev.2) D) := by
  have hp := enK_p hE hD.2.2
  exact ⟨sbs_R D 1 hD.1 (fun c hc w => ⟨h24 c w, (hp c hc w).1⟩), ⟨h, sbs_cdT hp hD.2.1.2⟩, sbs_cdW hp hD.2.2⟩
theorem TGo_sub (ha : ∀ c, 0 ≤ ar c ∧ ar c ≤ 7) (h : TGo ar nT 0 0 A) {i : Nat} (hi : i < A.length) : TGo ar nT 0 0 (subT ar A i) ∧ i + (subT ar A i).length ≤ A.length ∧ ∀ (j : Nat) (c : Int), (subT ar A i)[j]? = some c → A[i + j]? = some c := by
  obtain ⟨g1, g2, -⟩ := subT_ok (fun c => (ha c).1) h.1 (List.getElem?_eq_getElem hi)
  obtain ⟨B, hB⟩ : ∃ B, B = subT ar A i := ⟨_, rfl⟩
  rw [← hB] at g1 g2 ⊢
  have hl : B.length ≤ A.length - i := by
    have := congrArg List.length g2
    rw [List.length_drop, List.length_append] at this
    omega
  have hg : ∀ (j : Nat) (c : Int), B[j]? = some c → A[i + j]? = some c := fun j c hj => by
    have hjl := (List.getElem?_eq_some_iff.mp hj).1
    rw [← List.getElem?_drop, g2, List.getElem?_append_left hjl]
    exact hj
  have hm : ∀ c ∈ B, c ∈ A := fun c hc => by
    obtain ⟨j, hj⟩ := List.getElem?_of_mem hc
    exact List.mem_of_getElem? (hg j c hj)
  exact ⟨⟨g1, ⟨by have := h.2.1.1; omega, fun c hc => h.2.1.2 c (hm c hc)⟩, fun c hc => h.2.2 c (hm c hc)⟩, by omega, hg⟩
theorem isR_enI (ha : ∀ c, 0 ≤ ar c ∧ ar c ≤ 7) (h : isR ar 1 A) : isR m8 1 (enI ar A) := isR_m8 ha A 1 h
theorem TGo_ne (h : TGo ar nT 0 0 A) : 0 < A.length := by
  cases A with
  | nil => exact absurd rfl (isR_ne h.1)
  | cons c l => exact Nat.succ_pos _
/-- putFor -/
theorem x_251 (hI : RIl ar nT wr hw H fx Dr Bd its s) (hV : EVn ar s e T β0 β1 Ev) (hT : (s.1 64).toInt = T) (hT0 : 100000 ≤ T) (ha : ∀ c, 0 ≤ ar c ∧ ar c ≤ 7) (hE : enK ar nT Ev) (hD : TGo ar nT (Ev.1.length : Int) (Ev.2.length : Int) D) {Z : Int} (hZ : Z ≤ 13000) (hN : RSe s Z a1.toInt (D.map (rhE ar β0 β1))) (h2 : a2.toInt = (e : Int)) (hBd : 60 < (sbs (eta Ev.1 Ev.2) D).length → Bd) : Par d 251 [.ref 213, .int a1, .int a2] s (fun v s' => IFj T s s' ∧ RIl ar nT wr hw H fx Dr Bd its s' ∧ (s'.1 112 = s.1 112 ∧ s'.1 118 = s.1 118) ∧ ∃ r : Int32, v = some (.int r) ∧ ((r.toInt = 0 ∧ (s'.1 111).toInt = 0 ∧ s'.1 64 = s.1 64) ∨ (¬ r.toInt = 0 ∧ ¬ (s'.1 111).toInt = 0 ∧ ¬ (s.1 111).toInt = 0 ∧ (sbs (eta Ev.1 Ev.2) D).length ≤ 60 ∧ (s'.1 71).toInt = T ∧ (s'.1 72).toInt = ((sbs (eta Ev.1 Ev.2) D).length : Int) ∧ (s'.1 64).toInt = T + ((sbs (eta Ev.1 Ev.2) D).length : Int) ∧ RWel s' T (enI ar (sbs (eta Ev.1 Ev.2) D))))) := by
  cases d with
  | zero => exact Par_0
  | succ d =>
    obtain ⟨M1, M2⟩ := RIl_M hI
    obtain ⟨c0, c1, v1, v2, v3, v4⟩ := id hV
    obtain ⟨z1, ⟨z2, z3⟩, z4, z5⟩ := hN
    refine pb_251 ?_
    unfold ub_251_0
    have no : ∀ u : yS, IFj T s u → RIl ar nT wr hw H fx Dr Bd its u → u.1 112 = s.1 112 → u.1 118 = s.1 118 → u.1 64 = s.1 64 → ((u.1 111).toInt = 0 ∨ Bd) → ub_251_18 (Par d) a1 a2 u (fun v s' => IFj T s s' ∧ RIl ar nT wr hw H fx Dr Bd its s' ∧ (s'.1 112 = s.1 112 ∧ s'.1 118 = s.1 118) ∧ ∃ r : Int32, v = some (.int r) ∧ ((r.toInt = 0 ∧ (s'.1 111).toInt = 0 ∧ s'.1 64 = s.1 64) ∨ (¬ r.toInt = 0 ∧ ¬ (s'.1 111).toInt = 0 ∧ ¬ (s.1 111).toInt = 0 ∧ (sbs (eta Ev.1 Ev.2) D).length ≤ 60 ∧ (s'.1 71).toInt = T ∧ (s'.1 72).toInt = ((sbs (eta Ev.1 Ev.2) D).length : Int) ∧ (s'.1 64).toInt = T + ((sbs (eta Ev.1 Ev.2) D).length : Int) ∧ RWel s' T (enI ar (sbs (eta Ev.1 Ev.2) D))))) := fun u Fu Iu k1 k2 k3 hb => by
      unfold ub_251_18 ub_251_19
      intro _ s1 hs1 _
      have F : ∀ q, s1.1 q = if q = 111 then 0 else u.1 q := fun q => by rw [hs1, sfr_1]
      have r1 : s1.2 = u.2 := by rw [hs1, sfr_2]
      have f11 : (s1.1 111).toInt = 0 := by
        rw [F, if_pos rfl]
        decide
      refine ⟨IFj_tr Fu (by rw [hs1]; exact IFj_fl (T := T) (Or.inr (by decide))) (Int.le_refl _), RIl_f Iu (by rw [F, if_neg (by decide)]) (by rw [F, if_neg (by decide)]) (fun q j _ _ _ => by rw [r1]) (fun j _ _ => by rw [r1]) (fun _ => ?_), ⟨by rw [F, if_neg (by decide)]; exact k1, by rw [F, if_neg (by decide)]; exact k2⟩, _, rfl, Or.inl ⟨f11, f11, by rw [F, if_neg (by decide)]; exact k3⟩⟩
      rcases hb with q | q
      · exact Iu.2.2.2.2 q
      · exact Or.inl q
    refine ⟨fun hf => no s IFj_rf hI rfl rfl rfl (Or.inl hf), fun hf _ _ => ?_⟩
    refine Par.imp (x_191 (e := e) (c0 := c0) (c1 := c1) (E := D.map (rhE ar β0 β1)) hT v1 h2 z4 ⟨z2, by omega⟩ z5) ?_
    rintro v2' u ⟨pk, x3, rfl, hx⟩
    rw [put_rp ha hE v2 hD, enI_len] at hx
    refine ⟨x3, rfl, fun h0 => ?_, fun h0 => ?_⟩
    · rcases hx with ⟨-, q1, q2⟩ | ⟨q, -⟩
      · have Fu : IFj T s u := IFj_pk pk (fun k _ _ _ => by rw [q2]) (by omega)
        exact no u Fu (RIl_j hI Fu (by rw [q2]) (by rw [q2]) (fun w => hI.2.2.2.2 (by rw [← q2]; exact w))) (by rw [q2]) (by rw [q2]) (by rw [q2]) (Or.inr (hBd q1))
      · omega
    · rcases hx with ⟨q, -⟩ | ⟨-, q1, q2, q3, q4, q5, q6⟩
      · omega
      · have Fu : IFj T s u := IFj_pk pk q5 (by omega)
        unfold ub_251_19
        intro _ s1 hs1 _
        have F : ∀ q, s1.1 q = if q = 111 then 1 else u.1 q := fun q => by rw [hs1, sfr_1]
        have r1 : s1.2 = u.2 := by rw [hs1, sfr_2]
        have f11 : ¬ (s1.1 111).toInt = 0 := by
          rw [F, if_pos rfl]
          decide
        have u11 : ¬ (u.1 111).toInt = 0 := by
          rw [q5 111 (by decide) (by decide) (by decide)]
          exact hf
        have F1 : IFj T s s1 := IFj_tr Fu (by rw [hs1]; exact IFj_fl (T := T) (Or.inl u11)) (Int.le_refl _)
        have k1 : s1.1 112 = s.1 112 := by rw [F, if_neg (by decide), q5 112 (by decide) (by decide) (by decide)]
        have k2 : s1.1 118 = s.1 118 := by rw [F, if_neg (by decide), q5 118 (by decide) (by decide) (by decide)]
        refine ⟨F1, RIl_j hI F1 k1 k2 (fun w => absurd w f11), ⟨k1, k2⟩, _, rfl, Or.inr ⟨f11, f11, hf, q1, by rw [F, if_neg (by decide)]; exact q2, by rw [F, if_neg (by decide)]; exact q3, by rw [F, if_neg (by decide)]; exact q4, ?_⟩⟩
        intro i c hc
        rw [r1]
        exact q6 i c hc
set_option maxHeartbeats 1000000 in
/-- addTypes -/
theorem x_252 (hH : ∀ g g', g < H → g' < H → (wr g = wr g' ↔ hw g = hw g')) (hfx : ∀ c g g', g < H → g' < H → 0 ≤ fx c (hw g) → fx c (hw g) = fx c (hw g') → hw g = hw g') (hI : RIl ar nT wr hw H fx Dr Bd its s) (hV : EVn ar s e T β0 β1 Ev) (hT : (s.1 64).toInt = T) (hT0 : 100000 ≤ T) (ha : ∀ c, 0 ≤ ar c ∧ ar c ≤ 7) (h24 : ∀ c, 24 ≤ c → ar c = 0) (hE : enK ar nT Ev) (hD : TGo ar nT (Ev.1.length : Int) (Ev.2.length : Int) D) {Z : Int} (hZ : Z ≤ 13000) (hN : RSe s Z a1.toInt (D.map (rhE ar β0 β1))) (h2 : a2.toInt = (e : Int)) (hBd : 60 < (sbs (eta Ev.1 Ev.2) D).length → Bd) (hDr : ¬ 60 < (sbs (eta Ev.1 Ev.2) D).length → ∀ i : Nat, i < (sbs (eta Ev.1 Ev.2) D).length → Dr (0, subT ar (sbs (eta Ev.1 Ev.2) D) i, 0, [])) : Par d 252 [.ref 213, .int a1, .int a2] s (fun v s' => v = none ∧ IFj T s s' ∧ s'.1 64 = s.1 64 ∧ ∃ ws, RIl ar nT wr hw H fx Dr Bd (its ++ ws) s' ∧ (¬ (s'.1 111).toInt = 0 → ¬ 60 < (sbs (eta Ev.1 Ev.2) D).length ∧ ∀ i : Nat, i < (sbs (eta Ev.1 Ev.2) D).length → (0, subT ar (sbs (eta Ev.1 Ev.2) D) i, 0, []) ∈ its ++ ws)) := by
  cases d with
  | zero => exact Par_0
  | succ d =>
    refine pb_252 ?_
    unfold ub_252_0
    refine Par.imp (x_251 hI hV hT hT0 ha hE hD hZ hN h2 hBd) ?_
    rintro v2 t ⟨Ft, It, ⟨t12, t18⟩, x3, rfl, hx⟩
    refine ⟨x3, rfl, fun h0 => ?_, fun h0 => ?_⟩
    rotate_left
    · rcases hx with ⟨-, q1, q2⟩ | ⟨q, -⟩
      · exact ⟨rfl, Ft, q2, [], by rw [List.append_nil]; exact It, fun w => absurd q1 w⟩
      · exact absurd h0 q
    obtain ⟨-, q1, q2, q3, q4, q5, q6, q7⟩ := hx.resolve_left (fun w => h0 w.1)
    obtain ⟨B, hB⟩ : ∃ B, B = sbs (eta Ev.1 Ev.2) D := ⟨_, rfl⟩
    have tB := TGo_sb h24 hE hD q3
    rw [← hB] at hDr q3 q5 q6 q7 tB ⊢
    have hDr := hDr (by omega)
    refine ⟨fun b1 b2 b3 b4 b5 b6 u => b3 = s.1 64 ∧ b4.toInt = T ∧ b5.toInt = (B.length : Int) ∧ IFj (T + (B.length : Int)) t u ∧ ∃ (i : Nat) (ws : List Mit), b6.toInt = T + (i : Int) ∧ i ≤ B.length ∧ RIl ar nT wr hw H fx Dr Bd (its ++ ws) u ∧ (¬ (u.1 111).toInt = 0 → ∀ i' : Nat, i' < i → (0, subT ar B i', 0, []) ∈ its ++ ws), ⟨rfl, q4, q5, IFj_rf, 0, [], by omega, Nat.zero_le _, by rw [List.append_nil]; exact It, fun _ i' hi' => absurd hi' (Nat.not_lt_zero _)⟩, ?_⟩
    rintro b1 b2 b3 b4 b5 b6 u ⟨e3, e4, e5, Fu, i, ws, i1, i2, Iu, i3⟩
    subst e3
    unfold ub_252_17
    intro _ x1 hx1
    refine ⟨fun hend s2 hs2 => ?_, fun hmore => ?_⟩
    · have ei : i = B.length := by omega
      have F : ∀ q, s2.1 q = if q = 64 then s.1 64 else u.1 q := fun q => by rw [hs2, sfr_1]
      refine ⟨rfl, IFj_tr Ft (IFj_tr (IFj_T Fu (by omega)) (by rw [hs2]; exact IFj_64 (T := T)) (Int.le_refl _)) (Int.le_refl _), by rw [F, if_pos rfl], ws, RIl_f Iu (by rw [F, if_neg (by decide)]) (by rw [F, if_neg (by decide)]) (fun q j _ _ _ => by rw [hs2, sfr_2]) (fun j _ _ => by rw [hs2, sfr_2]) (fun w => Iu.2.2.2.2 (by rw [F, if_neg (by decide)] at w; exact w)), fun w => ⟨by omega, fun i' hi' => i3 (by rw [F, if_neg (by decide)] at w; exact w) i' (by omega)⟩⟩
    · have hi : i < B.length := by omega
      obtain ⟨s1, s2, s3⟩ := TGo_sub ha tB hi
      obtain ⟨C, hC⟩ : ∃ C, C = subT ar B i := ⟨_, rfl⟩
      rw [← hC] at s1 s2 s3
      have hCl := s1.2.1.1
      have wB : RWel u T (enI ar B) := IFj_el Fu (by omega) (Or.inr ⟨hT0, by rw [enI_len]; exact Int.le_refl _⟩) q7
      have wC : RWel u b6.toInt (enI ar C) := fun j c hj => by
        unfold enI at hj
        rw [List.getElem?_map] at hj
        obtain ⟨c', hc', rfl⟩ := Option.map_eq_some_iff.mp hj
        have := wB (i + j) (rhE ar 1000 2000 c') (by
          unfold enI
          rw [List.getElem?_map, s3 j c' hc']
          rfl)
        rw [i1, ← this, show T + (i : Int) + (j : Int) = T + ((i + j : Nat) : Int) by omega]
      refine Par.imp (x_186 (E := enI ar C) (isR_enI ha s1.1) wC) ?_
      rintro v4 s3' ⟨hs3, x5, rfl, hx5⟩
      subst hs3
      rw [enI_len] at hx5
      refine ⟨x5, rfl, fun _ x6 hx6 => ?_⟩
      refine Par.imp (x_250 (E := enI ar C) (y := (0, C, 0, [])) ha hH hfx Iu ⟨⟨show (0 : Int32).toInt = ((0 : Nat) : Int) by decide, show (1 : Int32).toInt = ((0 : Nat) : Int) + 1 by decide, Nat.zero_le 6, by show enI ar C = enI ar (C ++ []); rw [List.append_nil]⟩, ⟨s1, fun Z hZ => by cases hZ⟩, Or.inl ⟨rfl, by decide, rfl, rfl⟩⟩ (by rw [enI_len]; omega) (by rw [enI_len]; omega) wC ⟨by omega, Or.inr (by omega)⟩ (by rw [hC]; exact hDr i hi)) ?_
      rintro v8 f ⟨rfl, fk, Ff, us, If, hy, -⟩
      rw [List.append_assoc] at If hy
      refine ⟨rfl, fun _ x9 hx9 => ⟨rfl, e4, e5, IFj_tr Fu (Ff _) (Int.le_refl _), i + 1, ws ++ us, by omega, by omega, If, fun w i' hi' => ?_⟩⟩
      by_cases ei : i' = i
      · rw [ei, ← hC]
        exact hy w
      · have w3 : ¬ (s3'.1 111).toInt = 0 := fun z => w ((Ff 0).2.2.2.2.2.2 z)
        have := i3 w3 i' (by omega)
        rw [← List.append_assoc]
        exact List.mem_append_left _ this
end ZVT
