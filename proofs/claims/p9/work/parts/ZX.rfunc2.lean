/-! ===== the reference: typeFunc, whole ===== -/
section ZXF
variable {K L W ar kd : Int → Int} {n lo hi B b A0 x y : Int} {TN Ls : List Int} {s : yS} {d i : Nat} {t : Int} {a1 : Int32}
/-- the fault of a func's E -/
def fnF (K L W ar kd : Int → Int) (TN Ls : List Int) (i : Nat) (t : Int) : Int := if (exE6 K L W ar kd TN Ls (fnS K L W ar TN Ls i t) 10 (f_7 K L false (0, t)).2).1 = 0 then ftk L (exK K L W ar kd TN Ls (fnS K L W ar TN Ls i t) (exE6 K L W ar kd TN Ls (fnS K L W ar TN Ls i t) 10 (f_7 K L false (0, t)).2).2 (eta [] []) (wdC K L W ar TN (h_f K L (0, (f_5 K L false (0, t)).2 + 1)) (fPa K L false (0, t)) (h_3 K L (0, (f_5 K L false (0, t)).2 + 1)).2)) (f_7 K L false (0, t)).2 else (exE6 K L W ar kd TN Ls (fnS K L W ar TN Ls i t) 10 (f_7 K L false (0, t)).2).1
theorem sbs_nn : ∀ Z : List Int, (∀ c ∈ Z, 0 ≤ c ∧ c < 36) → sbs (eta [] []) Z = Z := fun Z hZ => by
  unfold sbs
  induction Z with
  | nil => rfl
  | cons c l ih =>
    rw [List.flatMap_cons, ih (fun c hc => hZ c (List.mem_cons_of_mem _ hc))]
    have := hZ c List.mem_cons_self
    by_cases h : c < 24
    · rw [if_pos h]
      rfl
    · rw [if_neg h]
      have e : eta [] [] (c - 24).toNat = [c] := by
        unfold eta
        rw [if_neg (show ¬ (c - 24).toNat < ([] : List (List Int)).length from Nat.not_lt_zero _), if_neg (show ¬ (c - 24).toNat - 6 < ([] : List (List Int)).length from Nat.not_lt_zero _), show (24 : Int) + ((c - 24).toNat : Int) = c by omega]
        split <;> rfl
      rw [e]
      rfl
theorem rpt_nn {c0 c1 : Int} : ∀ E : List Int, E.flatMap (rpt c0 [] c1 []) = E := fun E => by
  induction E with
  | nil => rfl
  | cons q l ih =>
    have e : rpt c0 [] c1 [] q = [q] := by
      unfold rpt
      by_cases h : q / 8 < 1000
      · rw [if_pos h]
      · rw [if_neg h, if_neg (fun w => by have : q / 8 - c0 < ((0 : Nat) : Int) := w.2; omega), if_neg (fun w => by have : q / 8 - c1 < ((0 : Nat) : Int) := w.2; omega)]
    rw [List.flatMap_cons, e, ih]
    rfl
set_option maxHeartbeats 2000000 in
/-- typeFunc -/
theorem x_229 (h : PRm K L W ar kd n lo hi TN Ls) (hB : 0 ≤ B) (hS : RST K L W ar kd TN Ls n B b A0 x y s) (h1 : Ls[i]? = some t) (h6 : K t = 6) (ha1 : a1.toInt = 60 * b + (kFn K (Ls.take i) : Int)) (h8 : (s.1 8).toInt = 0) (hA0 : A0 ≤ (s.1 65).toInt) (hA : (s.1 65).toInt + (nxE K L (f_7 K L false (0, t)).2 - (f_7 K L false (0, t)).2) ≤ 100000) : Par d 229 [.ref 213, .int a1] s (fun v s' => v = none ∧ EF0 (nsD K L Ls) B A0 s s' ∧ (s'.1 8).toInt = fnF K L W ar kd TN Ls i t ∧ 0 ≤ fnF K L W ar kd TN Ls i t ∧ (fnF K L W ar kd TN Ls i t = 0 → (s.1 65).toInt ≤ (s'.1 65).toInt ∧ (s'.1 65).toInt ≤ (s.1 65).toInt + (nxE K L (f_7 K L false (0, t)).2 - (f_7 K L false (0, t)).2) ∧ 0 ≤ (s'.1 70).toInt ∧ (∀ (x' y' t' e' : Int), eT K L B s 10 x' y' t' e' → (p_e K L 10 false (0, t')).1 = 0 → (nxE K L t' ≤ (f_7 K L false (0, t)).2 ∨ nxE K L (f_7 K L false (0, t)).2 ≤ t') → CFq x' y' A0 (s.1 65).toInt s s') ∧ ∃ x' y' : Int, (x ≤ x' ∧ y' ≤ y) ∧ eC K L W ar kd TN Ls B (4000 + 6 * (kFn K (Ls.take i) : Int)) (2000 + 6 * (kHd K L (Ls.take i) : Int)) (fnS K L W ar TN Ls i t) A0 (s'.1 65).toInt s' 10 x' y' (f_7 K L false (0, t)).2 (s'.2.1 258 (60 * b + (kFn K (Ls.take i) : Int)).toNat).toInt)) := by
  cases d with
  | zero => exact Par_0
  | succ d =>
    have hb : 0 ≤ b := hS.2.2.2.2.2.2
    have hW := EWd_fn (B := B) (b := b) h (hH_204 h hS) hB hb h1 h6
    obtain ⟨β0, hβ0⟩ : ∃ β0, β0 = 4000 + 6 * (kFn K (Ls.take i) : Int) := ⟨_, rfl⟩
    obtain ⟨β1, hβ1⟩ : ∃ β1, β1 = 2000 + 6 * (kHd K L (Ls.take i) : Int) := ⟨_, rfl⟩
    rw [← hβ0, ← hβ1] at hW
    obtain ⟨ha, h24⟩ := PR_ar h
    have hSP := hW.2.2.1
    obtain ⟨⟨f253, f255, fp6, f257, f261⟩, -, -⟩ := fs_r h hS h1 h6
    obtain ⟨⟨hX, hD, hlo, hhi⟩, -⟩ := id h
    obtain ⟨d1, d2, d3⟩ := dcC_at Ls i t lo hi hD h1
    have hpf := (d2 h6).1
    have hd2 := (d2 h6).2
    have hfn := fn_fw hpf
    obtain ⟨tE, htE⟩ : ∃ tE, tE = (f_7 K L false (0, t)).2 := ⟨_, rfl⟩
    have ef7 : f_7 K L false (0, t) = (0, tE) := by rw [htE]; exact Prod.ext hfn.1 rfl
    obtain ⟨-, -, hpe, hlt, hend⟩ := hfn
    rw [ef7] at hpe hlt hend
    have hnx : nxE K L tE = (p_e K L 10 false (0, tE)).2 := (pe_g 10 (by decide) false tE hpe).2.2
    have hlt : tE < nxE K L tE := by rw [hnx]; exact hlt
    have hend : (p_fn K L false (0, t)).2 = nxE K L tE + 1 := by rw [hnx]; exact hend
    have htt : t + 2 ≤ tE := by
      have := srtQ_le (srt_fn (h := 0) (show (f_7 K L false (0, t)).1 = 0 by rw [ef7]))
      rw [← htE] at this
      exact this
    obtain ⟨G, hG⟩ : ∃ G, G = 60 * b + (kFn K (Ls.take i) : Int) := ⟨_, rfl⟩
    obtain ⟨H, hH⟩ : ∃ H, H = 204 * b + (kHd K L (Ls.take i) : Int) := ⟨_, rfl⟩
    rw [← hG] at ha1 f253 f255 f257 f261
    rw [← hH] at f257
    obtain ⟨-, ⟨-, -, -, -, b256⟩, -, ⟨⟨-, h245, hf6, hYA⟩, -⟩, ea, ec, ee, ea1, ea2, ea3, -, e258, eTr⟩ := (hS.2.1 i t h1).1 h6
    rw [← hG] at b256 e258
    rw [← hH] at h245 hYA
    rw [← htE] at eTr
    obtain ⟨⟨-, -, dR⟩, -⟩ := (hS.2.2.1 i t h1).1 h6
    have hd0 : (dHd K L t)[0]? = some (f_5 K L false (0, t)).2 := by
      unfold dHd
      rw [if_pos h6]
      rfl
    obtain ⟨-, -, -, -, -, hx⟩ := hd_fact h h1 hd0
    have edT : dTp K L t = fPa K L false (0, t) := if_pos h6
    rw [edT] at hx
    obtain ⟨-, -, s3⟩ := hSlt_at (K := K) (L := L) (q := (f_5 K L false (0, t)).2) (h := ((kHd K L (Ls.take i) + 0 : Nat) : Int))
    have hxm := hx _ (List.mem_of_getElem? s3)
    obtain ⟨S, hSs⟩ : ∃ S, S = fnS K L W ar TN Ls i t := ⟨_, rfl⟩
    rw [← hSs] at hW hSP
    have eS1 : S.1 = h_f K L (0, (f_5 K L false (0, t)).2 + 1) := by rw [hSs]; rfl
    have eS2 : S.2.1 = fPa K L false (0, t) := by rw [hSs]; rfl
    obtain ⟨Z, hZ⟩ : ∃ Z, Z = wdC K L W ar TN S.1 S.2.1 (h_3 K L (0, (f_5 K L false (0, t)).2 + 1)).2 := ⟨_, rfl⟩
    have tl0 : (tlT K L (cdOf W S.1 S.2.1 TN) ar 10 (h_3 K L (0, (f_5 K L false (0, t)).2 + 1)).2).1 = 0 := by rw [eS1, eS2]; exact hxm.2.2.1
    have hpR : (p_t K L 10 false (0, (h_3 K L (0, (f_5 K L false (0, t)).2 + 1)).2)).1 = 0 := hxm.2.2.2.1
    obtain ⟨z1, ⟨z2, z3⟩, z4⟩ := wdE_ok hW tl0 hpR
    rw [← hZ] at z1 z2 z3 z4
    have hRZ : ∀ v, EF0 (nsD K L Ls) B A0 s v → RSe v A0 (v.2.1 251 H.toNat).toInt (Z.map (rhE ar β0 β1)) := fun v hv => by
      obtain ⟨⟨-, -, dR⟩, -⟩ := ((RST_e h hv hS).2.2.1 i t h1).1 h6
      have := RSn_e dR
      unfold wHd at this
      rw [wdC_map, show 204 * b + (kHd K L (Ls.take i) : Int) - 204 * b = (kHd K L (Ls.take i) : Int) by omega, ← hβ0, ← hβ1, ← hH, ← eS1, ← eS2, ← hZ] at this
      exact this
    obtain ⟨R, hR⟩ : ∃ R, R = exE6 K L W ar kd TN Ls S 10 tE := ⟨_, rfl⟩
    have eF : fnF K L W ar kd TN Ls i t = if R.1 = 0 then ftk L (exK K L W ar kd TN Ls S R.2 (eta [] []) Z) tE else R.1 := by
      unfold fnF
      rw [← hSs, ← htE, ← hR, ← eS1, ← eS2, ← hZ]
    rw [eF]
    rw [← htE] at hA ⊢
    rw [← hG, ← hβ0, ← hβ1, ← hSs]
    refine pb_229 ?_
    unfold ub_229_0
    rw [ha1]
    intro _
    refine Par.imp x_206 ?_
    rintro v2 s1 ⟨rfl, hs1⟩
    refine ⟨rfl, fun s3' hs3 s4 hs4 _ => ?_⟩
    have E4 : EF0 (nsD K L Ls) B A0 s s4 := by
      rw [hs4, hs3, hs1]
      exact EF0_tr (EF0_sf (by unfold fEx; omega)) (EF0_tr (EF0_sf (by unfold fEx; omega)) (EF0_tr (EF0_sf (by unfold fEx; omega)) (EF0_tr (EF0_sf (by unfold fEx; omega)) (EF0_sf (by unfold fEx; omega)))))
    have r4 : s4.2 = s.2 := by rw [hs4, hs3, hs1]; rfl
    have k4 : ∀ k, ¬ k = 64 → ¬ k = 70 → ¬ k = 76 → ¬ k = 77 → ¬ k = 78 → s4.1 k = s.1 k := fun k q1 q2 q3 q4 q5 => by
      rw [hs4, sfr_1, if_neg q2, hs3, sfr_1, if_neg q1, hs1, sfr_1, if_neg q5, sfr_1, if_neg q4, sfr_1, if_neg q3]
    have k64 : (s4.1 64).toInt = 100000 := by
      rw [hs4, sfr_1, if_neg (by decide), hs3, sfr_1, if_pos rfl]
      decide
    have k70 : (s4.1 70).toInt = 0 := by
      rw [hs4, sfr_1, if_pos rfl]
      decide
    have k76 : (s4.1 76).toInt = -1 := by
      rw [hs4, sfr_1, if_neg (by decide), hs3, sfr_1, if_neg (by decide), hs1, sfr_1, if_neg (by decide), sfr_1, if_neg (by decide), sfr_1, if_pos rfl]
      decide
    have k77 : (s4.1 77).toInt = H := by
      rw [hs4, sfr_1, if_neg (by decide), hs3, sfr_1, if_neg (by decide), hs1, sfr_1, if_neg (by decide), sfr_1, if_pos rfl]
      exact f257
    have k78 : (s4.1 78).toInt = G := by
      rw [hs4, sfr_1, if_neg (by decide), hs3, sfr_1, if_neg (by decide), hs1, sfr_1, if_pos rfl]
      exact ha1
    have h84 : (s4.1 8).toInt = 0 := by rw [k4 8 (by decide) (by decide) (by decide) (by decide) (by decide)]; exact h8
    have k65 : s4.1 65 = s.1 65 := k4 65 (by decide) (by decide) (by decide) (by decide) (by decide)
    have hI4 : EIn K L W ar kd TN Ls n B b A0 x y β0 β1 S s4 := by
      refine ⟨RST_e h E4 hS, ⟨?_, Or.inr ⟨by rw [k77]; omega, ?_, ?_, by rw [k77]; omega⟩, Or.inr (Or.inl ⟨by omega, by omega, ?_, ?_, by rw [k78]; omega⟩)⟩, ⟨by rw [k65]; exact hA0, by omega, by omega⟩, Or.inr ⟨i, t, h1, h6, by rw [k78, hG], eS2, eS1, by rw [hSs]; rfl, by rw [hSs]; rfl, hβ0, hβ1⟩⟩
      · rw [k4 75 (by decide) (by decide) (by decide) (by decide) (by decide)]
        exact hS.1.1
      · rw [k77, r4, eS1]
        exact h245
      · rw [k77, eS1]
        intro j v hv
        rw [r4]
        exact (hYA j v hv).1
      · rw [k78, r4, eS2]
        exact f255
      · rw [k78, r4, eS2]
        intro j v hv
        have hne : fPa K L false (0, t) ≠ [] := fun e => by
          rw [e] at hv
          cases hv
        have q1 := b256 hne
        have q2 : v = (f_3 K L false (0, t)).2 + 1 + 2 * (j : Int) := by
          unfold fPa at hv
          by_cases hc : t_k K 91 (f_3 K L false (0, t)) = true
          · rw [if_pos hc] at hv
            exact pls_ef 7 _ j v hv
          · rw [if_neg hc] at hv
            cases hv
        omega
    have hT4 : eT K L B s4 10 ea ec tE (s4.2.1 258 G.toNat).toInt := by
      rw [r4, e258]
      exact eT_e E4 _ _ _ _ _ eTr
    have hL0 := hX.2.2 tE (by omega) (by omega)
    refine Par.imp (E217_all hW 10 (by decide) d _ ea ec tE s4 hI4 h84 hT4 hpe (by omega) (by omega) (fun v v1 v2 => fn_ns hD h1 h6 (by rw [← htE]; exact v1) (by omega) (by rw [← htE]; omega)) (by rw [k65]; exact hA)) ?_
    rintro v6 s5 ⟨rfl, p1, p2, p2n, p3⟩
    rw [← hR] at p2 p2n p3
    have E5 := EF0_tr E4 p1
    refine ⟨rfl, fun w1 => ?_, fun w1 => ?_⟩
    · rw [p2] at w1
      rw [if_neg w1]
      unfold ub_229_52
      exact ⟨rfl, E5, p2, p2n, fun q => absurd q w1⟩
    · rw [p2] at w1
      rw [if_pos w1]
      obtain ⟨q1, q2, q3, q4, q5⟩ := p3 w1
      have hI5 := EIn_f h p1 q1 hI4
      have h100 := hI5.2.2.1.2.1
      obtain ⟨e, hee⟩ : ∃ e : Nat, (s5.1 70).toInt = (e : Int) := ⟨_, (Int.toNat_of_nonneg hI5.2.2.1.2.2).symm⟩
      refine Par.imp (nw_188 hee) ?_
      rintro v8 s7 ⟨x9, rfl, n1, n2, n3, n4, n5, n6, n7⟩
      have E7 : EF0 (nsD K L Ls) B A0 s s7 := EF0_tr E5 (EF0_wf (n4 (s5.1 64).toInt) (by have := hI5.2.2.1.1; rw [k65] at q3; omega))
      refine ⟨x9, rfl, fun _ _ _ => ?_⟩
      have c257 : (s7.2.1 257 G.toNat).toInt = H := by rw [EF0_r E7 (q := 257) (by unfold rEx; omega)]; exact f257
      have hT7 : eT K L B s7 10 ea ec tE (s7.2.1 258 G.toNat).toInt := by
        rw [EF0_r E7 (q := 258) (by unfold rEx; omega), e258]
        exact eT_e E7 _ _ _ _ _ eTr
      rw [c257]
      refine Par.imp (x_178 hT7) ?_
      rintro v11 s10 ⟨hs10, x12, rfl, hx12⟩
      subst hs10
      obtain ⟨ca, A', eA⟩ : ∃ ca A', R.2 = ca :: A' := by
        cases hR2 : R.2 with
        | nil =>
          rw [hR2] at q4
          exact absurd rfl (isR_ne q4.2.2.2.2.1)
        | cons a l => exact ⟨a, l, rfl⟩
      rw [eA] at q4
      rw [eA]
      refine ⟨x12, rfl, ?_⟩
      have hPG := PG_of h (RST_e h E7 hS)
      have h8x : (s10.1 8).toInt = 0 := by rw [n3 8 (by decide), p2]; exact w1
      have hTYe : TYe ar (TN.length : Int) β0 β1 (S.2.1.length : Int) (S.1.length : Int) (s10.1 64).toInt s10 (s10.1 80).toInt (ca :: A') := by
        rw [n3 80 (by decide), n3 64 (by decide)]
        exact TYe_w (n4 _) q4.2.2
      have hη : pOK ar (TN.length : Int) (S.2.1.length : Int) (S.1.length : Int) (eta [] []) Z := fun c hc w => by
        have e : eta [] [] (c - 24).toNat = [c] := by
          have := sbs_nn [c] (fun q hq => by rw [List.mem_singleton.mp hq]; exact ⟨(z4 c hc).1, (z4 c hc).2.1⟩)
          unfold sbs at this
          rw [List.flatMap_cons, if_neg (by omega)] at this
          simpa using this
        rw [e]
        have := h24 c w
        refine ⟨⟨by decide, by rw [this]; exact Int.le_refl _, by rw [this]; rfl⟩, fun q hq => ?_, fun q hq => ?_⟩
        · rw [List.mem_singleton.mp hq]
          exact z4 c hc
        · rw [List.mem_singleton.mp hq]
          exact z3 c hc
      have hRp : (Z.map (rhE ar β0 β1)).flatMap (rpt (s10.2.1 265 (2 * e)).toInt [] (s10.2.1 265 (2 * e + 1)).toInt []) = (sbs (eta [] []) Z).map (rhE ar β0 β1) := by
        rw [rpt_nn, sbs_nn Z (fun q hq => ⟨(z4 q hq).1, (z4 q hq).2.1⟩)]
      refine Par.imp (x_212 (A := A0) (T := (s10.1 64).toInt) (e := e + 1) (e0 := e) (L := L) hPG hSP rfl (by rw [n3 64 (by decide)]; have := hI5.2.2.1.1; rw [k65] at q3; omega) (by rw [n2]; omega) h8x hTYe (by rw [n3 81 (by decide)]; exact q4.2.1) (hRZ s10 E7) (EVr_nil n6 n7) n1 hRp z1 z4 z3 hη hx12 (((RST_e h E7 hS).1.2.2.1 tE (by omega) (by omega)).2) rfl) ?_
      rintro v14 s13 ⟨rfl, o1, ⟨o2, o3⟩, o4⟩
      refine ⟨rfl, fun _ x15 hx15 s16 hs16 => ?_⟩
      unfold ub_229_52
      have e65 : s16.1 65 = s5.1 65 := by
        rw [hs16, sfr_1, if_neg (by decide), o1.1 65 (by decide) (by decide) (by decide) (by decide) (by decide) (by decide) (by decide), n3 65 (by decide)]
      refine ⟨rfl, ?_, ?_, ftk_nn (by omega), fun _ => ?_⟩
      · rw [hs16]
        exact EF0_tr E7 (EF0_tr (EF0_wf o1 (by rw [n3 64 (by decide)]; have := hI5.2.2.1.1; rw [k65] at q3; omega)) (EF0_sf (by unfold fEx; omega)))
      · rw [hs16, sfr_1, if_neg (by decide)]
        exact o4
      · rw [e65]
        have := q1.2.1.1
        rw [k65] at this q3
        have c516 : ∀ {x' y' A1 : Int}, CFq x' y' A1 (s5.1 65).toInt s5 s16 := fun {x' y' A1} => by
          rw [hs16]
          exact CFq_tr (CFq_wf (n4 (s5.1 64).toInt) (by omega)) (CFq_tr (CFq_wf o1 (by rw [n3 64 (by decide)]; omega)) CFq_sf)
        refine ⟨this, q3, ?_, fun x' y' t' e' k1 k2 k3 => ?_, ea, ec, ⟨ea1, ea2⟩, ?_⟩
        · rw [hs16, sfr_1, if_pos rfl]
          omega
        · have hd : y' ≤ ea ∨ ec ≤ x' := by
            rcases k3 with k3 | k3
            · exact eT_dis (by decide) (by decide) k1 eTr k2 hpe k3
            · exact (eT_dis (by decide) (by decide) eTr k1 hpe k2 k3).symm
          have c04 : CFq x' y' A0 (s.1 65).toInt s s4 := ⟨fun _ _ _ _ _ _ => by rw [r4], fun _ _ _ => by rw [r4]⟩
          exact CFq_tr c04 (CFq_tr (CFq_of p1 q1 q2 hd (eT_h k1).1.1 (by rw [k65]; exact Int.le_refl _)) (CFq_A c516 this))
        · have e258' : s16.2.1 258 G.toNat = s4.2.1 258 G.toNat := by
            rw [hs16, sfr_2, o1.2.2.1 258 _ (by decide), n5 258 _ (by decide), EF0_r p1 (q := 258) (by unfold rEx; omega)]
          rw [e258']
          exact eC_c 10 c516 (Int.le_refl _) q5
end ZXF
