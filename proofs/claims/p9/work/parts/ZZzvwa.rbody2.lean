/-! ===== the reference: instances: addBody, whole ===== -/
section ZVWA
variable {ar kd : Int → Int} {nT Z b Ag : Int} {wr hw : Nat → Int} {H F : Nat} {fx : Int → Int → Int} {Dr : Mit → Prop} {Bd : Prop} {its : List Mit} {s s' u : yS} {e d c : Nat} {cf hb ow : Nat → Int} {fs : Nat → Nat} {hd : Nat → Nat × Nat × List (List Int)} {tm tn : Int → Nat} {Bf : Int → List (List Int)} {cd : Int → List Ins} {t A : List Int} {w : Int} {Ts : List (List Int)} {a1 a2 a3 : Int32}
/-- what may be made besides a METHOD that is there -/
theorem RIl_D (h : RIl ar nT wr hw H fx Dr Bd its s) (hf : ¬ (s.1 111).toInt = 0) : RIl ar nT wr hw H fx (fun x => Dr x ∧ (x.1 = 2 → x ∈ its)) Bd its s := ⟨h.1, h.2.1, h.2.2.1, ⟨h.2.2.2.1.1, fun x hx => ⟨h.2.2.2.1.2 x hx, fun _ => hx⟩⟩, fun z => absurd z hf⟩
theorem RIl_E {D2 : Mit → Prop} (h : RIl ar nT wr hw H fx D2 Bd its s) (hD : ∀ x, D2 x → Dr x) : RIl ar nT wr hw H fx Dr Bd its s := ⟨h.1, h.2.1, h.2.2.1, ⟨h.2.2.2.1.1, fun x hx => hD x (h.2.2.2.1.2 x hx)⟩, fun z => (h.2.2.2.2 z).elim Or.inl (fun ⟨y, y1, y2⟩ => Or.inr ⟨y, hD y y1, y2⟩)⟩
theorem hs_k {η : Nat → List Int} {C : List Ins} {x : Mit} (h : hsC ar η C x) : ¬ x.1 = 2 := by
  rcases h with ⟨I, -, A, -, i, -, rfl⟩ | ⟨I, -, -, rfl⟩
  · exact show ¬ (0 : Nat) = 2 by decide
  · exact show ¬ (1 : Nat) = 2 by decide
theorem BDn_a {ws : List Mit} (h : BDn ar cd its) (hs : ∀ x ∈ ws, x.1 = 2 → x ∈ its) : BDn ar cd (its ++ ws) := fun A f Ts hm => by
  rcases List.mem_append.mp hm with q | q
  · exact dn_a (h A f Ts q)
  · exact dn_a (h A f Ts (hs _ q rfl))
set_option maxHeartbeats 8000000 in
theorem x_256 (hZ : Z ≤ 13000) (hG : PGr ar kd cf fs F H nT tm tn hd hb ow hw Bf b Ag s) (hAg : Ag ≤ 13000) (hb1 : b < 2) (hwr : ∀ g, g < H → wHr b s g = wr g) (hfxe : ∀ c w, fx c w = lFw cf (fun f => hw (fs f)) c w F) (hN : FNn ar nT Z wr hw H F cf fs hd cd b s) (hI : RIl ar nT wr hw H fx Dr Bd its s) (hT : (s.1 64).toInt = 100000) (h70 : (s.1 70).toInt = (e : Int)) (he : e < 280) (hc : its[c]? = some (1, t, w, Ts)) (h3 : a3.toInt = (c : Int)) (hA : TGo ar nT 0 0 A) (hA1 : 20000 ≤ a1.toInt ∧ a1.toInt + (A.length : Int) ≤ (s.1 118).toInt) (hAw : RWel s a1.toInt (enI ar A)) (h2 : a2.toInt = (A.length : Int)) (hk : kd (A.headD 0) = 1) (hF : mtV ar kd (rso kd cf fs F tm tn hw) hw hd tm tn A A t = 0 → ∃ kf : Nat, kf < F ∧ fx (A.headD 0) w = (kf : Int) ∧ Ts.length = (hd (fs kf)).1) (hB9 : mtV ar kd (rso kd cf fs F tm tn hw) hw hd tm tn A A t = 9 → Bd) (hD : mtV ar kd (rso kd cf fs F tm tn hw) hw hd tm tn A A t = 0 → Dr (2, A, fx (A.headD 0) w, Ts)) (hX : mtV ar kd (rso kd cf fs F tm tn hw) hw hd tm tn A A t = 0 → (∀ x, hsC ar (eta (argT ar A) Ts) (cd (fx (A.headD 0) w)) x → Dr x) ∧ (grC (eta (argT ar A) Ts) (cd (fx (A.headD 0) w)) → Bd)) (hBD : ¬ (s.1 111).toInt = 0 → BDn ar cd its) : Par d 256 [.ref 213, .int a1, .int a2, .int a3] s (fun v s' => v = none ∧ IFc 100000 e s s' ∧ s'.1 70 = s.1 70 ∧ s'.1 78 = s.1 78 ∧ ∃ ws, RIl ar nT wr hw H fx Dr Bd (its ++ ws) s' ∧ (¬ (s'.1 111).toInt = 0 → BDn ar cd (its ++ ws) ∧ ¬ mtV ar kd (rso kd cf fs F tm tn hw) hw hd tm tn A A t = 9 ∧ (mtV ar kd (rso kd cf fs F tm tn hw) hw hd tm tn A A t = 0 → (2, A, fx (A.headD 0) w, Ts) ∈ its ++ ws))) := by
  cases d with
  | zero => exact Par_0
  | succ d =>
    obtain ⟨mvv, hmv⟩ : ∃ x, x = mtV ar kd (rso kd cf fs F tm tn hw) hw hd tm tn A A t := ⟨_, rfl⟩
    rw [← hmv] at hF hB9 hD hX ⊢
    obtain ⟨g75, g2, g3, g4, g5, g6, ha, h24⟩ := id hG
    obtain ⟨k75, b0, -, hH204, hF60, hnT24⟩ := id g75
    have hH : ∀ g g', g < H → g' < H → (wr g = wr g' ↔ hw g = hw g') := fun g g' h1 h2 => by
      rw [← hwr g h1, ← hwr g' h2]
      exact (g5 g h1).2.2.2 g' h2
    have hfi : ∀ c g g', g < H → g' < H → 0 ≤ fx c (hw g) → fx c (hw g) = fx c (hw g') → hw g = hw g' := fun c g g' _ _ h0 he' => by
      rw [hfxe] at h0 he'
      rw [hfxe] at he'
      rcases lFw_b (cf := cf) (wf := fun f => hw (fs f)) (c := c) (x := hw g) F with q | ⟨f1, -, q1, -, q2⟩
      · omega
      · rcases lFw_b (cf := cf) (wf := fun f => hw (fs f)) (c := c) (x := hw g') F with q' | ⟨f2, -, q1', -, q2'⟩
        · omega
        · have : f1 = f2 := by omega
          rw [← q2, ← q2', this]
    suffices key : ∀ Q : Option Value → yS → Prop, (∀ s', IFc 100000 e s s' → s'.1 70 = s.1 70 → s'.1 78 = s.1 78 → (∃ ws, RIl ar nT wr hw H fx Dr Bd (its ++ ws) s' ∧ (¬ (s'.1 111).toInt = 0 → BDn ar cd (its ++ ws) ∧ ¬ mvv = 9 ∧ (mvv = 0 → (2, A, fx (A.headD 0) w, Ts) ∈ its ++ ws))) → Q none s') → Par (d + 1) 256 [.ref 213, .int a1, .int a2, .int a3] s Q from key _ (fun s' h1 h2 h3 h4 => ⟨rfl, h1, h2, h3, h4⟩)
    intro Q hQ
    obtain ⟨M1, M2⟩ := RIl_M hI
    obtain ⟨E, r1, r2, r3, ⟨v1, v2, v3, v4⟩, ⟨v5, v6⟩, v7⟩ := hI.2.2.1 c _ hc
    have v4 : E = enI ar (t ++ Ts.flatten) := v4
    have v5 : TGo ar nT 0 0 t := v5
    have v6 : ∀ B ∈ Ts, TGo ar nT 0 0 B := v6
    have v2 : (s.2.1 281 c).toInt = (Ts.length : Int) + 1 := v2
    have v3 : Ts.length ≤ 6 := v3
    obtain ⟨g0, g01, g02, g03⟩ : ∃ g, g < H ∧ (s.2.1 280 c).toInt = wr g ∧ w = hw g := by
      rcases v7 with ⟨q, -⟩ | ⟨-, q⟩ | ⟨q, -⟩
      · exact absurd (show (1 : Nat) = 0 from q) (by decide)
      · exact q
      · exact absurd (show (1 : Nat) = 2 from q) (by decide)
    have hcl := (List.getElem?_eq_some_iff.mp hc).1
    have n112 := hI.1.1
    have lE : E.length = t.length + Ts.flatten.length := by rw [v4, enI_len, List.length_append]
    obtain ⟨p, hp⟩ : ∃ p, p = (s.2.1 282 c).toInt := ⟨_, rfl⟩
    rw [← hp] at r2 r3
    rw [v4, enI_app] at r3
    have wt : RWel s p (enI ar t) := fun i c' hc' => by
      have hi := (List.getElem?_eq_some_iff.mp hc').1
      exact r3 i c' (by rw [List.getElem?_append_left hi]; exact hc')
    have wT : RWel s (p + (t.length : Int)) (enI ar Ts.flatten) := fun i c' hc' => by
      have := r3 (t.length + i) c' (by rw [List.getElem?_append_right (by rw [enI_len]; omega), enI_len, show t.length + i - t.length = i by omega]; exact hc')
      rw [← this, show p + (t.length : Int) + (i : Int) = p + ((t.length + i : Nat) : Int) by omega]
    have lT : Ts.flatten.length ≤ 360 := by
      have : ∀ X : List (List Int), (∀ B ∈ X, B.length ≤ 60) → X.flatten.length ≤ 60 * X.length := fun X => by
        induction X with
        | nil => exact fun _ => Nat.le_refl _
        | cons B X ih =>
          intro h
          have h1 := h B List.mem_cons_self
          have h2 := ih (fun C hC => h C (List.mem_cons_of_mem _ hC))
          rw [List.flatten_cons, List.length_append, List.length_cons]
          omega
      have := this Ts (fun B hB => (v6 B hB).2.1.1)
      omega
    have lA := hA.2.1.1
    have lt60 := v5.2.1.1
    have hA0 := TGo_ne hA
    have ht0 := TGo_ne v5
    obtain ⟨ca, A', eA⟩ : ∃ ca A', A = ca :: A' := by
      cases hq : A with
      | nil =>
        rw [hq] at hA0
        exact absurd hA0 (Nat.not_lt_zero _)
      | cons a l => exact ⟨a, l, rfl⟩
    obtain ⟨cb, B', eB⟩ : ∃ cb B', t = cb :: B' := by
      cases hq : t with
      | nil =>
        rw [hq] at ht0
        exact absurd ht0 (Nat.not_lt_zero _)
      | cons a l => exact ⟨a, l, rfl⟩
    have c24 : ca < 24 := (cd_cl hA.2.2 ca (by rw [eA]; exact List.mem_cons_self)).2
    have c00 : 0 ≤ ca := (cd_cl hA.2.2 ca (by rw [eA]; exact List.mem_cons_self)).1
    have caT : ca < nT := hA.2.1.2 ca (by rw [eA]; exact List.mem_cons_self) c24
    have hdA : A.headD 0 = ca := by rw [eA]; rfl
    have e3 : a3.toInt.toNat = c := by omega
    refine pb_256 ?_
    unfold ub_256_0
    rw [e3]
    intro _ _
    refine Par.imp (x_186 (E := enI ar t) (isR_enI ha v5.1) (by rw [← hp]; exact wt)) ?_
    rintro v s1 ⟨hs1, x3, rfl, hx3⟩
    rw [hs1]
    rw [enI_len, ← hp] at hx3
    refine ⟨x3, rfl, fun _ _ x4 hx4 => ?_⟩
    rw [← hp] at hx4
    refine Par.imp (x_195 (T := 100000) (e := e) (ca := ca) (A' := A') (cb := cb) (B' := B') (β0 := 1000) (β1 := 2000) (nX := 0) (nY := 0) (bn := fun _ => []) hG ⟨by unfold bOK; omega, Or.inl rfl, Or.inl rfl⟩ hT (by omega) h70 (by rw [← eA]; exact ⟨⟨by omega, by omega⟩, hAw, hA.1, hA.2.1, hA.2.2⟩) (by rw [← eA]; exact h2) (by rw [← eB, ← hp]; exact ⟨⟨by omega, by omega⟩, wt, v5.1, v5.2.1, v5.2.2⟩) (by rw [← eB]; omega)) ?_
    rintro v s5 ⟨hWF, ⟨-, k64, k70⟩, x7, rfl, hx7⟩
    have hown : ownT (fun _ => []) (ca :: A') = ca :: A' := if_pos c24
    rw [hown, ← eA, ← eB, ← hmv] at hx7
    have hmb : mvv = 0 ∨ mvv = 7 ∨ mvv = 9 := by
      rw [hmv]
      exact mtV_b
    obtain ⟨cv1, cv0⟩ := cvA_0 hmb
    have F5 : IFc 100000 e s s5 := IFc_w hWF (Int.le_refl _) (by omega)
    have o5 : ∀ k, k = 78 ∨ k = 111 ∨ k = 112 ∨ k = 118 → s5.1 k = s.1 k := fun k hk => hWF.1 k (by omega) (by omega) (by omega) (by omega) (by omega) (by omega) (by omega)
    have k70' : s5.1 70 = s.1 70 := Int32.toInt_inj.mp (by omega)
    have I5 : RIl ar nT wr hw H fx Dr Bd its s5 := RIl_c hI F5 (o5 112 (by decide)) (o5 118 (by decide)) (fun z => hI.2.2.2.2 (by rw [← o5 111 (by decide)]; exact z))
    refine ⟨x7, rfl, ?_⟩
    have e30 : ∀ t1 : Int32, (t1.toInt = 0 → (s5.1 111).toInt = 0 ∨ Bd) → (¬ t1.toInt = 0 → ¬ (s5.1 111).toInt = 0 ∧ ¬ x7.toInt = 2) → ub_256_30 (Par d) a1 a2 a3 x7 t1 s5 Q := fun t1 ht0 ht1 => by
      unfold ub_256_30 ub_256_37
      intro _ f0 hf0
      have Ff : ∀ q, f0.1 q = if q = 111 then t1 else s5.1 q := fun q => by rw [hf0, sfr_1]
      have r0 : f0.2 = s5.2 := by rw [hf0, sfr_2]
      have F0' : IFj 100000 s5 f0 := by
        rw [hf0]
        by_cases z : t1.toInt = 0
        · exact IFj_fl (Or.inr z)
        · exact IFj_fl (Or.inl (ht1 z).1)
      have F0 : IFc 100000 e s f0 := IFc_tr F5 (IFc_j (e := e) F0') (Int.le_refl _) (Nat.le_refl _)
      have I0 : RIl ar nT wr hw H fx Dr Bd its f0 := RIl_f I5 (by rw [Ff, if_neg (by decide)]) (by rw [Ff, if_neg (by decide)]) (fun q j _ _ _ => by rw [r0]) (fun j _ _ => by rw [r0]) (fun z => by
        rw [Ff, if_pos rfl] at z
        rcases ht0 z with q | q
        · exact I5.2.2.2.2 q
        · exact Or.inl q)
      have f070 : f0.1 70 = s.1 70 := by rw [Ff, if_neg (by decide)]; exact k70'
      have f078 : f0.1 78 = s.1 78 := by rw [Ff, if_neg (by decide)]; exact o5 78 (by decide)
      have f064 : (f0.1 64).toInt = 100000 := by rw [Ff, if_neg (by decide), k64]; exact hT
      have live : ¬ (f0.1 111).toInt = 0 → ¬ (s.1 111).toInt = 0 ∧ ¬ mvv = 9 := fun z => by
        rw [Ff, if_pos rfl] at z
        obtain ⟨z1, z2⟩ := ht1 z
        rw [o5 111 (by decide)] at z1
        refine ⟨z1, fun q => z2 ?_⟩
        rw [hx7, q]
        decide
      refine ⟨fun h1 => hQ f0 F0 f070 f078 ⟨[], by rw [List.append_nil]; exact I0, fun z => ?_⟩, fun h1 => ⟨fun hf _ => ?_, fun hf => hQ f0 F0 f070 f078 ⟨[], by rw [List.append_nil]; exact I0, fun z => absurd hf z⟩⟩⟩
      · obtain ⟨z1, z2⟩ := live z
        rw [List.append_nil]
        exact ⟨hBD z1, z2, fun q => absurd (by rw [hx7]; exact cv1.mpr q) h1⟩
      obtain ⟨z1, z2⟩ := live hf
      have hm : mvv = 0 := cv1.mp (by rw [← hx7]; exact h1)
      obtain ⟨kf, hkf, hfk, hTl⟩ := hF hm
      have hD := hD hm
      obtain ⟨hX1, hX2⟩ := hX hm
      have hBD := hBD z1
      rw [hfk] at hD hX1 hX2 hQ
      have r282 : f0.2.1 282 c = s.2.1 282 c := by rw [r0]; exact hWF.2.2.1 282 c (Or.inr (by decide))
      have row0 : ∀ q, 279 ≤ q → q ≤ 283 → f0.2.1 q c = s.2.1 q c := fun q q1 q2 => F0.2.2.2.2.1 q c q1 q2 (by omega)
      have wt0 : RWel f0 p (enI ar t) := IFc_el F0 (by omega) (Or.inl (by rw [enI_len]; omega)) wt
      have wT0 : RWel f0 (p + (t.length : Int)) (enI ar Ts.flatten) := IFc_el F0 (by omega) (Or.inl (by rw [enI_len]; omega)) wT
      have wA0 : RWel f0 a1.toInt (enI ar A) := IFc_el F0 (by omega) (Or.inl (by rw [enI_len]; omega)) hAw
      have M0 := RIl_M I0
      have f118 : (f0.1 118).toInt = (s.1 118).toInt := by rw [Ff, if_neg (by decide), o5 118 (by decide)]
      rw [e3]
      refine Par.imp (x_186 (E := enI ar t) (isR_enI ha v5.1) (by rw [r282, ← hp]; exact wt0)) ?_
      rintro v s2 ⟨hs2, x5, rfl, hx5⟩
      rw [hs2]
      rw [enI_len, r282, ← hp] at hx5
      refine ⟨x5, rfl, ?_⟩
      -- the receiver's TYPE, copied
      have stp : ∀ (u : yS) (E0 : List Int) (i : Nat) (c' : Int) (x : Int32), (∀ q, ¬ q = 64 → u.1 q = f0.1 q) → u.2.2 = f0.2.2 → (∀ q j : Nat, ¬ (q = 264 ∧ 100000 ≤ (j : Int)) → u.2.1 q j = f0.2.1 q j) → (u.1 64).toInt = 100000 + (i : Int) → E0.length = i → RWel u 100000 E0 → (f0.2.1 264 x.toInt.toNat).toInt = c' → x.toInt < 100000 → 0 ≤ x.toInt → ∀ s2 : yS, s2 = sa u 264 (u.1 64).toInt.toNat (u.2.1 264 x.toInt.toNat) → ∀ x3' : Int32, x3'.toInt = (s2.1 64).toInt + 1 → ∀ s4 : yS, s4 = sf s2 64 x3' → ((∀ q, ¬ q = 64 → s4.1 q = f0.1 q) ∧ s4.2.2 = f0.2.2 ∧ (∀ q j : Nat, ¬ (q = 264 ∧ 100000 ≤ (j : Int)) → s4.2.1 q j = f0.2.1 q j) ∧ (s4.1 64).toInt = 100000 + (i : Int) + 1 ∧ RWel s4 100000 (E0 ++ [c'])) := fun u E0 i c' x u1 u2 u3 u4 lE0 u5 hv hx hx0 s2 hs2 x3' hx3' s4 hs4 => by
        have g2 : s2.1 = u.1 := by rw [hs2, sa_1r]
        have F4 : ∀ q, s4.1 q = if q = 64 then x3' else u.1 q := fun q => by rw [hs4, sfr_1, g2]
        rw [g2] at hx3'
        refine ⟨fun q h => by rw [F4, if_neg h]; exact u1 q h, ?_, fun q j h => ?_, by rw [F4, if_pos rfl]; omega, ?_⟩
        · rw [hs4, hs2]
          exact u2
        · rw [hs4, sfr_2, hs2, sa_21, if_neg (fun w => h ⟨w.1, by omega⟩)]
          exact u3 q j h
        · have hv' : (u.2.1 264 x.toInt.toNat).toInt = c' := by
            rw [u3 264 _ (by omega)]
            exact hv
          have := RWel_s (y := (u.1 64).toInt.toNat) (by omega) (by omega) hv' u5
          intro j c2 hj
          rw [hs4, sfr_2, hs2]
          exact this j c2 hj
      refine ⟨fun c1 c2 c3 c4 c5 c6 c7 u => c1 = a1 ∧ c2 = a2 ∧ c3 = a3 ∧ c4 = x7 ∧ c5 = f0.1 64 ∧ c6 = x5 ∧ (∀ q, ¬ q = 64 → u.1 q = f0.1 q) ∧ u.2.2 = f0.2.2 ∧ (∀ q j : Nat, ¬ (q = 264 ∧ 100000 ≤ (j : Int)) → u.2.1 q j = f0.2.1 q j) ∧ ∃ i : Nat, c7.toInt = (i : Int) ∧ i ≤ A.length ∧ (u.1 64).toInt = 100000 + (i : Int) ∧ RWel u 100000 ((enI ar A).take i), ⟨rfl, rfl, rfl, rfl, rfl, rfl, fun _ _ => rfl, rfl, fun _ _ _ => rfl, 0, by decide, Nat.zero_le _, by omega, fun j c hc => by cases hc⟩, ?_⟩
      rintro c1 c2 c3 c4 c5 c6 c7 u0 ⟨e1, e2, e4, e5, e6, e7, u01, u02, u03, i, i1, i2, i3, i4⟩
      have e1 := e1.symm
      have e2 := e2.symm
      have e4 := e4.symm
      have e5 := e5.symm
      have e7 := e7.symm
      subst e1 e2 e4 e5 e6 e7
      unfold ub_256_50
      refine ⟨fun hend => ?_, fun hmore _ x1 hx1 kb1 _ s2' hs2' _ x3' hx3' s4' hs4' _ x5' hx5' => ?_⟩
      rotate_left
      · have hi : i < A.length := by omega
        obtain ⟨c', hc'⟩ : ∃ c', (enI ar A)[i]? = some c' := ⟨_, List.getElem?_eq_getElem (by rw [enI_len]; exact hi)⟩
        have hv := RWel_at wA0 hc' (show x1.toInt = a1.toInt + (i : Int) by omega) kb1.1
        have hlk : ((enI ar A).take i).length = i := by rw [List.length_take, enI_len]; omega
        obtain ⟨y1, y2, y3, y4, y5⟩ := stp u0 _ i c' x1 u01 u02 u03 i3 hlk i4 hv (by omega) kb1.1 s2' hs2' x3' hx3' s4' hs4'
        exact ⟨rfl, rfl, rfl, rfl, rfl, rfl, y1, y2, y3, i + 1, by omega, by omega, by omega, by rw [take_s hc']; exact y5⟩
      have ei : i = A.length := by omega
      rw [ei, List.take_of_length_le (by rw [enI_len]; exact Nat.le_refl _)] at i4
      -- what is told, copied
      refine ⟨fun c1 c2 c3 c4 c5 c6 c7 u => c1 = a1 ∧ c2 = a2 ∧ c3 = a3 ∧ c4 = x7 ∧ c5 = f0.1 64 ∧ c6 = x5 ∧ (∀ q, ¬ q = 64 → u.1 q = f0.1 q) ∧ u.2.2 = f0.2.2 ∧ (∀ q j : Nat, ¬ (q = 264 ∧ 100000 ≤ (j : Int)) → u.2.1 q j = f0.2.1 q j) ∧ ∃ i : Nat, c7.toInt = p + (t.length : Int) + (i : Int) ∧ i ≤ Ts.flatten.length ∧ (u.1 64).toInt = 100000 + ((A.length + i : Nat) : Int) ∧ RWel u 100000 (enI ar A ++ (enI ar Ts.flatten).take i), ⟨rfl, rfl, rfl, rfl, rfl, rfl, u01, u02, u03, 0, by omega, Nat.zero_le _, by omega, by rw [List.take_zero, List.append_nil]; exact i4⟩, ?_⟩
      rintro c1 c2 c3 c4 c5 c6 c7' u ⟨e1, e2, e4, e5, e6, e7, u1, u2, u3, i', i1', i2', i3', i4'⟩
      have e1 := e1.symm
      have e2 := e2.symm
      have e4 := e4.symm
      have e5 := e5.symm
      have e7 := e7.symm
      subst e1 e2 e4 e5 e6 e7
      have rowu : ∀ q, 279 ≤ q → q ≤ 283 → u.2.1 q c = s.2.1 q c := fun q q1 q2 => by rw [u3 q c (by omega)]; exact row0 q q1 q2
      unfold ub_256_74
      rw [e3, rowu 282 (by decide) (by decide), rowu 283 (by decide) (by decide), ← hp]
      refine fun _ _ _ xe hxe => ⟨fun hend2 _ _ _ x2 hx2 => ?_, fun hmore kb7 _ s2' hs2' _ x3' hx3' s4' hs4' _ x5' hx5' => ?_⟩
      rotate_left
      · have hi : i' < Ts.flatten.length := by omega
        obtain ⟨c', hc'⟩ : ∃ c', (enI ar Ts.flatten)[i']? = some c' := ⟨_, List.getElem?_eq_getElem (by rw [enI_len]; exact hi)⟩
        have hv := RWel_at wT0 hc' i1' kb7.1
        have hlk : (enI ar A ++ (enI ar Ts.flatten).take i').length = A.length + i' := by rw [List.length_append, List.length_take, enI_len, enI_len]; omega
        obtain ⟨y1, y2, y3, y4, y5⟩ := stp u _ (A.length + i') c' c7' u1 u2 u3 i3' hlk i4' hv (by omega) kb7.1 s2' hs2' x3' hx3' s4' hs4'
        exact ⟨rfl, rfl, rfl, rfl, rfl, rfl, y1, y2, y3, i' + 1, by omega, by omega, by omega, by rw [take_s hc', ← List.append_assoc]; exact y5⟩
      have ei' : i' = Ts.flatten.length := by omega
      have u4 : (u.1 64).toInt = 100000 + ((A ++ Ts.flatten).length : Int) := by
        rw [List.length_append, i3', ei']
      have u5 : RWel u 100000 (enI ar (A ++ Ts.flatten)) := by
        rw [ei', List.take_of_length_le (by rw [enI_len]; exact Nat.le_refl _)] at i4'
        rw [enI_app]
        exact i4'
      have Fu : IFc 100000 e f0 u := ⟨fun q hq => u1 q (fun w => hq (by rw [w]; decide)), u2, fun q j hq => u3 q j (by omega), ⟨fun q j hq _ => u3 q j (by omega), fun q j hq _ => u3 q j (by omega)⟩, fun q j q1 q2 _ => u3 q j (by omega), fun j hj => u3 264 j (by omega), ⟨by rw [u1 112 (by decide)]; exact Int.le_refl _, by rw [u1 118 (by decide)]; exact Int.le_refl _⟩, fun z => by rw [u1 111 (by decide)]; exact z⟩
      have Fsu : IFc 100000 e s u := IFc_tr F0 Fu (Int.le_refl _) (Nat.le_refl _)
      have Iu : RIl ar nT wr hw H fx Dr Bd its u := RIl_c I0 Fu (u1 112 (by decide)) (u1 118 (by decide)) (fun z => I0.2.2.2.2 (by rw [← u1 111 (by decide)]; exact z))
      have uf : ¬ (u.1 111).toInt = 0 := by
        rw [u1 111 (by decide)]
        exact hf
      have urow : ∀ q, 279 ≤ q → q ≤ 283 → u.2.1 q c = s.2.1 q c := fun q q1 q2 => by rw [u3 q c (by omega)]; exact row0 q q1 q2
      have lAT : (A ++ Ts.flatten).length = A.length + Ts.flatten.length := List.length_append
      rw [urow 280 (by decide) (by decide), urow 281 (by decide) (by decide)]
      refine Par.imp (x_250 (E := enI ar (A ++ Ts.flatten)) (y := (2, A, (kf : Int), Ts)) ha hH hfi Iu ⟨⟨show (2 : Int32).toInt = ((2 : Nat) : Int) by decide, v2, v3, rfl⟩, ⟨hA, v6⟩, Or.inr (Or.inr ⟨rfl, g0, g01, g02, by show (kf : Int) = fx (A.headD 0) (hw g0); rw [← g03]; exact hfk.symm, by show (0 : Int) ≤ (kf : Int); omega⟩)⟩ (by rw [enI_len]; omega) (by rw [enI_len]; omega) (by rw [f064]; exact u5) ⟨by omega, Or.inr (by omega)⟩ hD) ?_
      rintro v s3 ⟨rfl, k3, Fs3, us, I3, hy, hus⟩
      have F3 : IFc 100000 e s s3 := IFc_tr Fsu (IFc_j (e := e) (Fs3 100000)) (Int.le_refl _) (Nat.le_refl _)
      have n112u : (u.1 112).toInt = (its.length : Int) := by rw [u1 112 (by decide)]; exact I0.1.1
      refine ⟨rfl, fun hne _ => ?_, fun heq s26 hs26 => ?_⟩
      rotate_left
      · have eus : us = [] := by
          rcases hus with q | ⟨q, -⟩
          · exact q
          · have := I3.1.1
            rw [q, List.length_append, List.length_singleton] at this
            omega
        rw [eus, List.append_nil] at I3 hy
        have Fx : ∀ q, s26.1 q = if q = 64 then f0.1 64 else s3.1 q := fun q => by rw [hs26, sfr_1]
        refine hQ s26 (IFc_tr F3 (by rw [hs26]; exact IFc_sf (T := 100000) (by decide)) (Int.le_refl _) (Nat.le_refl _)) (by rw [Fx, if_neg (by decide), k3 70 (by decide) (by decide) (by decide), u1 70 (by decide)]; exact f070) (by rw [Fx, if_neg (by decide), k3 78 (by decide) (by decide) (by decide), u1 78 (by decide)]; exact f078) ⟨[], ?_, fun z => ?_⟩
        · rw [List.append_nil]
          exact RIl_f I3 (by rw [Fx, if_neg (by decide)]) (by rw [Fx, if_neg (by decide)]) (fun q j _ _ _ => by rw [hs26, sfr_2]) (fun j _ _ => by rw [hs26, sfr_2]) (fun z => I3.2.2.2.2 (by rw [Fx, if_neg (by decide)] at z; exact z))
        · rw [Fx, if_neg (by decide)] at z
          rw [List.append_nil]
          exact ⟨hBD, z2, fun _ => hy z⟩
      obtain ⟨eus, e111⟩ : us = [(2, A, (kf : Int), Ts)] ∧ s3.1 111 = u.1 111 := by
        rcases hus with q | q
        · have := I3.1.1
          rw [q, List.append_nil] at this
          omega
        · exact q
      rw [eus] at I3
      have s3f : ¬ (s3.1 111).toInt = 0 := by
        rw [e111]
        exact uf
      have r3q : ∀ q, (q < 264 ∨ (268 < q ∧ q < 279)) → s3.2.1 q = s.2.1 q := fun q hq => IFc_r F3 hq
      have t3' : ∀ j : Nat, (j : Int) < 13000 → s3.2.1 264 j = s.2.1 264 j := fun j hj => F3.2.2.2.2.2.1 j (Or.inl (by omega))
      have s375 : s3.1 75 = s.1 75 := F3.1 75 (by decide)
      have G3 : PGr ar kd cf fs F H nT tm tn hd hb ow hw Bf b Ag s3 := PGr_x (fun q hq => r3q q (Or.inl hq)) (fun j hj => t3' j (by omega)) s375 hG
      have wA3 : RWel s3 a1.toInt (enI ar A) := IFc_el F3 (by omega) (Or.inl (by rw [enI_len]; omega)) hAw
      have hel : KI (s3.2.1 264) a1.toInt / 8 = ca := by
        have := wA3 0 (rhE ar 1000 2000 ca) (by rw [eA]; rfl)
        rw [show a1.toInt + ((0 : Nat) : Int) = a1.toInt by omega] at this
        rw [this, rhE_d (ha ca)]
        unfold rhC
        rw [if_pos c24]
      have wH3 : ∀ h, wHr b s3 h = wHr b s h := fun h => by
        unfold wHr
        rw [r3q 217 (by decide), r3q 244 (by decide)]
      have s3280 : (s3.2.1 280 c).toInt = wr g0 := by
        rw [F3.2.2.2.2.1 280 c (by decide) (by decide) (by omega)]
        exact g02
      refine Par.imp (x_193 (co := ca) (x := w) G3 hel ⟨c00, caT⟩ (fun h hh => by rw [wH3, s3280, hwr h hh, g03]; exact hH h g0 hh g01)) ?_
      rintro v s4 ⟨⟨h42, h41⟩, x7', rfl, h4⟩
      have hrso : rso kd cf fs F tm tn hw ca w = (fs kf : Int) := by
        have e1 : lFw cf (fun f => hw (fs f)) ca w F = (kf : Int) := by
          rw [← hfxe, ← hdA]
          exact hfk
        unfold rso
        rw [← hdA, if_pos hk, hdA, e1, if_pos (by omega), Int.toNat_natCast]
      obtain ⟨-, g, hg1, hg2, h73, h74, -⟩ := h4.resolve_left (fun q => by
        have := q.2
        omega)
      have hgk : g = fs kf := by omega
      subst hgk
      obtain ⟨w1, w2, w3, w4, w5, w6, w7, w8⟩ := g3.2 kf hkf
      refine ⟨x7', rfl, ?_⟩
      have r4 : s4.2 = s3.2 := h42
      have s475 : (s4.1 75).toInt = b := by rw [h41 75 (by decide) (by decide), s375]; exact k75
      refine Par.imp (x_246 (b := b) s475) ?_
      rintro v s8 ⟨hs8, x10, rfl, ⟨f1, f1'⟩, f2, f3⟩
      rw [hs8]
      have r257 : ∀ f : Nat, f < F → (s4.2.1 257 (60 * b + (f : Int)).toNat).toInt = 204 * b + (fs f : Int) := fun f hf => by
        rw [r4, r3q 257 (by decide)]
        exact (g3.2 f hf).2.1
      have hx10 : x10.toInt = 60 * b + (kf : Int) := by
        have le : x10.toInt ≤ 60 * b + (kf : Int) := by
          rcases Int.lt_or_le (60 * b + (kf : Int)) x10.toInt with q | q
          · exact absurd (by rw [r257 kf hkf, h73]) (f3 (60 * b + (kf : Int)).toNat (by omega) (by omega))
          · exact q
        obtain ⟨f', hf'⟩ : ∃ f' : Nat, x10.toInt = 60 * b + (f' : Int) := ⟨(x10.toInt - 60 * b).toNat, by omega⟩
        have hfF : f' < F := by omega
        rw [show x10.toInt.toNat = (60 * b + (f' : Int)).toNat by omega, r257 f' hfF, h73] at f2
        have e1 := (g3.2 f' hfF).2.2.2.1
        rw [show fs f' = fs kf by omega, w4] at e1
        omega
      refine ⟨x10, rfl, ?_⟩
      refine Par.imp x_188 ?_
      rintro v s11 ⟨x13, rfl, n1, n2, n3, n4, n5, n6⟩
      have s470 : s4.1 70 = s.1 70 := by rw [h41 70 (by decide) (by decide), k3 70 (by decide) (by decide) (by decide), u1 70 (by decide)]; exact f070
      have hx13 : x13.toInt = (e : Int) := by rw [n1, s470]; exact h70
      refine ⟨x13, rfl, ?_⟩
      have h1174 : s11.1 74 = s4.1 74 := n3 74 (by decide)
      have t11 : ∀ j, s11.2.1 264 j = s3.2.1 264 j := fun j => by rw [n5 264 j (by decide), r4]
      have w3 : RWel s3 100000 (enI ar (A ++ Ts.flatten)) := fun i c' hc' => by
        have hi := (List.getElem?_eq_some_iff.mp hc').1
        rw [enI_len] at hi
        rw [← u5 i c' hc', KI_p (by omega), KI_p (by omega), (Fs3 (100000 + ((A ++ Ts.flatten).length : Int))).2.2.2.2.1 _ (by omega)]
      have w11 : RWel s11 100000 (enI ar (A ++ Ts.flatten)) := fun i c' hc' => by
        have hi := (List.getElem?_eq_some_iff.mp hc').1
        rw [← w3 i c' hc', KI_p (by omega), KI_p (by omega), t11]
      obtain ⟨p1, p2, p3⟩ := argT_ok ha (by rw [← eA]; exact hA.1)
      rw [← eA] at p1 p2 p3
      have eAr : enI ar A = rhE ar 1000 2000 ca :: ((argT ar A).map (enI ar)).flatten := by
        have : ((argT ar A).map (enI ar)).flatten = enI ar A' := by
          show ((argT ar A).map (List.map (rhE ar 1000 2000))).flatten = A'.map (rhE ar 1000 2000)
          rw [fl_map, p1]
        rw [this, eA]
        rfl
      have hmp : ((argT ar A).map (enI ar)).length = (argT ar A).length := List.length_map _
      have lfl : ((argT ar A).map (enI ar)).flatten.length + 1 = A.length := by
        have := congrArg List.length eAr
        rw [enI_len, List.length_cons] at this
        omega
      have w11A : RWel s11 100000 (rhE ar 1000 2000 ca :: ((argT ar A).map (enI ar)).flatten) := fun i c' hc' => by
        rw [← eAr] at hc'
        have hi := (List.getElem?_eq_some_iff.mp hc').1
        refine w11 i c' ?_
        rw [enI_app, List.getElem?_append_left hi]
        exact hc'
      obtain ⟨⟨fu0, C00, -⟩, fnb, fng, fn6, fn6'⟩ := hN kf hkf
      have hcf : cf kf = ca := by
        have e1 : lFw cf (fun f => hw (fs f)) ca w F = (kf : Int) := by
          rw [← hfxe, ← hdA]
          exact hfk
        rcases lFw_b (cf := cf) (wf := fun f => hw (fs f)) (c := ca) (x := w) F with q | ⟨f', -, q1, q2, -⟩
        · omega
        · rw [show kf = f' by omega]
          exact q2
      rw [hcf] at fn6
      rw [hcf, ← p3, ← hTl] at fng
      have hX6 : (argT ar A).length ≤ 6 := by omega
      have i00 : (0 : Int32).toInt = 0 := by decide
      have q1 : 2 * x13.toInt + (0 : Int32).toInt = ((2 * e : Nat) : Int) := by omega
      have q2 : rhE ar 1000 2000 ca % 8 = (((argT ar A).map (enI ar)).length : Int) := by
        rw [hmp, p3]
        exact rhE_m (ha ca)
      have q3 : ∀ x ∈ (argT ar A).map (enI ar), isR m8 1 x := fun x hx => by
        obtain ⟨B, hB, rfl⟩ := List.mem_map.mp hx
        exact isR_enI ha (p2 B hB)
      obtain ⟨T2, hT2⟩ : ∃ T2, T2 = 100000 + ((A ++ Ts.flatten).length : Int) := ⟨_, rfl⟩
      refine Par.imp (Par_and (x_189 (T := T2) (g := 2 * e) (c := rhE ar 1000 2000 ca) (X := (argT ar A).map (enI ar)) q1 (by rw [f064]; exact w11A) q2 q3 (by rw [hmp]; exact hX6) (by omega)) (x_189p (g := 2 * e) (c := rhE ar 1000 2000 ca) (X := (argT ar A).map (enI ar)) q1 (by rw [f064]; exact w11A) q2 q3 (by rw [hmp]; exact hX6))) ?_
      rintro v s14 ⟨⟨rfl, GF, q265, q266, qG⟩, -, -, -, -, qlo⟩
      refine ⟨rfl, fun _ x16 hx16 _ x17 hx17 _ x18 hx18 _ x19 hx19 _ x20 hx20 _ x21 hx21 kb17 s22 hs22 _ _ x23 hx23 _ s24 hs24 _ x25 hx25 => ?_⟩
      obtain ⟨gf1, gf2, gf3⟩ := GF
      have e17 : x17.toInt.toNat = 2 * e + 1 := by omega
      rw [e17] at hs22 hs24
      have s1475 : (s14.1 75).toInt = b := by rw [gf1, n3 75 (by decide)]; exact s475
      have s1473 : (s14.1 73).toInt = 204 * b + (fs kf : Int) := by rw [gf1, n3 73 (by decide)]; exact h73
      have hx21' : x21.toInt = 2000 + 6 * (fs kf : Int) := by omega
      have c22 : ∀ q j, ¬ (q = 265 ∧ j = 2 * e + 1) → s22.2.1 q j = s14.2.1 q j := fun q j h => by rw [hs22, sa_21, if_neg h]
      have c24' : ∀ q j, ¬ ((q = 265 ∨ q = 266) ∧ j = 2 * e + 1) → s24.2.1 q j = s14.2.1 q j := fun q j h => by rw [hs24, sa_21, if_neg (fun w => h ⟨Or.inr w.1, w.2⟩), c22 q j (fun w => h ⟨Or.inl w.1, w.2⟩)]
      have f24 : s24.1 = s11.1 := by rw [hs24, sa_1r, hs22, sa_1r]; exact gf1
      have l24 : s24.2.2 = s11.2.2 := by
        rw [hs24, hs22]
        exact gf2
      -- what lies ahead of s24
      have F34 : IFc 100000 e s3 s4 := ⟨fun q hq => h41 q (fun w => hq (by rw [w]; decide)) (fun w => hq (by rw [w]; decide)), by rw [r4], fun q j _ => by rw [r4], ⟨fun q j _ _ => by rw [r4], fun q j _ _ => by rw [r4]⟩, fun q j _ _ _ => by rw [r4], fun j _ => by rw [r4], ⟨by rw [h41 112 (by decide) (by decide)]; exact Int.le_refl _, by rw [h41 118 (by decide) (by decide)]; exact Int.le_refl _⟩, fun z => by rw [h41 111 (by decide) (by decide)]; exact z⟩
      have F411 : IFc 100000 e s4 s11 := ⟨fun q hq => n3 q (fun w => hq (by rw [w]; decide)), n4, fun q j hq => n5 q j (by omega), ⟨fun q j hq hj => by
        rcases hq with rfl | rfl
        · exact n5 265 j (by decide)
        · rw [n6 j, if_neg (by rw [s470, h70]; omega)], fun q j hq _ => n5 q j (by omega)⟩, fun q j z1 z2 _ => n5 q j (by omega), fun j _ => n5 264 j (by decide), ⟨by rw [n3 112 (by decide)]; exact Int.le_refl _, by rw [n3 118 (by decide)]; exact Int.le_refl _⟩, fun z => by rw [n3 111 (by decide)]; exact z⟩
      have F1114 : IFc 100000 e s11 s14 := ⟨fun q _ => by rw [gf1], gf2, fun q j hq => gf3 q j (by omega) (by omega), ⟨fun q j hq hj => gf3 q j (by omega) (by omega), fun q j hq hj => gf3 q j (by omega) (by omega)⟩, fun q j z1 z2 _ => gf3 q j (by omega) (by omega), fun j _ => gf3 264 j (by omega) (by omega), ⟨by rw [gf1]; exact Int.le_refl _, by rw [gf1]; exact Int.le_refl _⟩, fun z => by rw [gf1]; exact z⟩
      have F1424 : IFc 100000 e s14 s24 := IFc_tr (u := s22) (by rw [hs22]; exact IFc_ev (T := 100000) (Or.inl ⟨Or.inl rfl, by omega⟩)) (by rw [hs24]; exact IFc_ev (T := 100000) (Or.inl ⟨Or.inr rfl, by omega⟩)) (Int.le_refl _) (Nat.le_refl _)
      have F3z : IFc 100000 e s3 s24 := IFc_tr F34 (IFc_tr F411 (IFc_tr F1114 F1424 (Int.le_refl _) (Nat.le_refl _)) (Int.le_refl _) (Nat.le_refl _)) (Int.le_refl _) (Nat.le_refl _)
      have Fz : IFc 100000 e s s24 := IFc_tr F3 F3z (Int.le_refl _) (Nat.le_refl _)
      have zk : ∀ q, ¬ q = 70 → ¬ q = 73 → ¬ q = 74 → s24.1 q = s3.1 q := fun q h1 h2 h3 => by rw [f24, n3 q h1, h41 q h2 h3]
      have s3k : ∀ q, ¬ q = 64 → ¬ q = 111 → ¬ q = 112 → ¬ q = 118 → s3.1 q = f0.1 q := fun q h1 h2 h3 h4 => by rw [k3 q h2 h3 h4, u1 q h1]
      have z64 : (s24.1 64).toInt = T2 := by
        rw [zk 64 (by decide) (by decide) (by decide), k3 64 (by decide) (by decide) (by decide), hT2]
        exact u4
      have tz : ∀ j, s24.2.1 264 j = s11.2.1 264 j := fun j => by rw [c24' 264 j (by omega), gf3 264 j (by omega) (by omega)]
      obtain ⟨D2, hD2⟩ : ∃ D2 : Mit → Prop, D2 = fun x => Dr x ∧ (x.1 = 2 → x ∈ its ++ [(2, A, (kf : Int), Ts)]) := ⟨_, rfl⟩
      have Iz : RIl ar nT wr hw H fx D2 Bd (its ++ [(2, A, (kf : Int), Ts)]) s24 := by
        rw [hD2]
        exact RIl_c (RIl_D I3 s3f) F3z (zk 112 (by decide) (by decide) (by decide)) (zk 118 (by decide) (by decide) (by decide)) (fun w => absurd (by rw [← zk 111 (by decide) (by decide) (by decide)]; exact w) s3f)
      have Nz := FNn_c Fz (by omega) hN
      have tgA : ∀ B ∈ argT ar A, TGo ar nT 0 0 B := fun B hB => by
        have aP := (argT_P (nX := 0) (nY := 0) (nT := nT) ha (by rw [← eA]; exact hA.1) (by rw [← eA]; exact hA.2.2) (by rw [← eA]; exact hA.2.1.2)).1
        rw [← eA] at aP
        obtain ⟨y1, y2, y3⟩ := aP B hB
        have y4 := flt_le _ _ hB
        rw [p1] at y4
        have y5 : A.length = A'.length + 1 := by rw [eA]; rfl
        exact ⟨y1, ⟨by omega, y3⟩, y2⟩
      have Cz : okC ar nT ((argT ar A).length : Int) (Ts.length : Int) D2 Bd (eta (argT ar A) Ts) (cd (kf : Int)) := ⟨fng, fun x hx => by
        rw [hD2]
        exact ⟨hX1 x hx, fun h2 => absurd h2 (hs_k hx)⟩, hX2⟩
      have wz2 : RWel s24 (100000 + (A.length : Int)) (enI ar Ts.flatten) := fun i c' hc' => by
        have := w11 (A.length + i) c' (by rw [enI_app, List.getElem?_append_right (by rw [enI_len]; omega), enI_len, show A.length + i - A.length = i by omega]; exact hc')
        rw [← this, KI_p (by omega), KI_p (by omega), tz, show (100000 + (A.length : Int) + (i : Int)).toNat = (100000 + ((A.length + i : Nat) : Int)).toNat by omega]
      refine m256c (kf := kf) (A := A) (Ts := Ts) (T := T2) (P2 := 100000 + (A.length : Int)) (e := e) (fun fu => AEn_all hZ ha h24 ⟨⟨hX6, v3⟩, tgA, v6⟩ hH hfi fu) hZ ha Iz Nz hkf ⟨b0, hb1⟩ Cz v6 ⟨hX6, v3⟩ z64 ⟨by omega, by omega⟩ wz2 hx10 hx13 (by omega) (by omega) ⟨?_, ?_, ?_⟩ ?_ ?_ (fun i hi => ?_) (fun s' Fs' z1' z2' z3' hs' => ?_)
      · rw [c24' 265 _ (by omega), q265, h1174, h74]
        exact w4
      · rw [c24' 266 _ (by omega), q266, hmp]
      · intro i Y hi hY
        obtain ⟨x, y1, y2, y3, y4⟩ := qG i Y (by rw [hmp]; exact hi) hY
        refine ⟨x, by rw [c24' 267 _ (by omega)]; exact y1, by rw [c24' 268 _ (by omega)]; exact y2, y3, fun j c' hc' => ?_⟩
        have hj := (List.getElem?_eq_some_iff.mp hc').1
        rw [← y4 j c' hc', KI_p (by omega), KI_p (by omega), c24' 264 _ (by omega)]
      · rw [hs24, sa_21, if_neg (fun w => absurd w.1 (by decide)), hs22, sa_21, if_pos ⟨rfl, rfl⟩]
        exact hx21'
      · rw [hs24, sa_21, if_pos ⟨rfl, rfl⟩, hx23, c22 281 c (by omega), gf3 281 c (by omega) (by omega), n5 281 c (by decide), r4, F3.2.2.2.2.1 281 c (by decide) (by decide) (by omega), v2]
        omega
      · obtain ⟨B, hB⟩ : ∃ B, (argT ar A)[i]? = some B := ⟨_, List.getElem?_eq_getElem hi⟩
        have := (qlo i (enI ar B) (by rw [List.getElem?_map, hB]; rfl)).1
        rw [c24' 267 _ (by omega), show 12 * e + i = 6 * (2 * e) + i by omega, this]
        omega
      · obtain ⟨vs, Is, hsd⟩ := hs'
        have z70 : (s24.1 70).toInt = (s.1 70).toInt + 1 := by rw [f24, n2, s470]
        refine hQ s' (IFc_tr Fz Fs' (Int.le_refl _) (Nat.le_refl _)) (Int32.toInt_inj.mp (by omega)) (by rw [z2', zk 78 (by decide) (by decide) (by decide), s3k 78 (by decide) (by decide) (by decide) (by decide)]; exact f078) ⟨[(2, A, (kf : Int), Ts)] ++ vs, ?_, fun z => ⟨fun A0 f1 T1 hm => ?_, z2, fun _ => List.mem_append_right _ (List.mem_append_left _ (List.mem_singleton.mpr rfl))⟩⟩
        · rw [← List.append_assoc]
          exact RIl_E Is (fun x hx => by rw [hD2] at hx; exact hx.1)
        · rw [← List.append_assoc] at hm ⊢
          have hx2 := Is.2.2.2.1.2 _ hm
          rw [hD2] at hx2
          have hm2 := hx2.2 rfl
          rcases List.mem_append.mp hm2 with q | q
          · exact dn_a (dn_a (hBD A0 f1 T1 q))
          · have q := List.mem_singleton.mp q
            have q1 : A0 = A := congrArg (fun x : Mit => x.2.1) q
            have q2 : f1 = (kf : Int) := congrArg (fun x : Mit => x.2.2.1) q
            have q3 : T1 = Ts := congrArg (fun x : Mit => x.2.2.2) q
            rw [q1, q2, q3]
            exact hsd z
    refine ⟨fun hf => ?_, fun hf => ⟨fun h2' => ?_, fun h2' => e30 1 (fun z => absurd z (by decide)) (fun _ => ⟨hf, h2'⟩)⟩⟩
    · unfold ub_256_29
      exact e30 0 (fun _ => Or.inl hf) (fun z => absurd (by decide) z)
    · unfold ub_256_29
      refine e30 0 (fun _ => Or.inr (hB9 ?_)) (fun z => absurd (by decide) z)
      rcases hmb with q | q | q
      · rw [hx7, q] at h2'
        exact absurd h2' (by decide)
      · rw [hx7, q] at h2'
        exact absurd h2' (by decide)
      · exact q
end ZVWA
