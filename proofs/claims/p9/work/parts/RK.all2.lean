/-! ===== readAll ===== -/
/-- what the reading may write beside nodes -/
def WAl (p i : Nat) : Prop := 233 ≤ p ∧ p ≤ 263
/-- what readAll leaves -/
def AQp (K L : Int → Int) (B n b h0 : Int) (s : yS) (σ : RSt) (s' : yS) : Prop := RTk K L B n s' ∧ (s'.1 8).toInt = (p_pg K L σ).1 ∧ GFx (s.1 26).toInt WAl s s' ∧ ((p_pg K L σ).1 = 0 → ALr K L B s' b h0 (s.1 26).toInt (s'.1 26).toInt (l_al K L 4000 0 0 σ) ∧ (s'.2.1 233 b.toNat).toInt = (kTy K (l_al K L 4000 0 0 σ) : Int) ∧ (s'.2.1 252 b.toNat).toInt = (kFn K (l_al K L 4000 0 0 σ) : Int) ∧ (s'.2.1 263 b.toNat).toInt = ((l_al K L 4000 0 0 σ).length : Int) ∧ (s'.1 42).toInt = h0 + (kHd K L (l_al K L 4000 0 0 σ) : Int) ∧ kTy K (l_al K L 4000 0 0 σ) ≤ 24 ∧ kFn K (l_al K L 4000 0 0 σ) ≤ 60 ∧ ErA K L B s' 259 b (s.1 26).toInt (s'.1 26).toInt ((p_al K L 4000 0 0 σ).2 + 1))
section RAW
variable {d : Nat} {K L : Int → Int} {B n : Int} {s t : yS} {σ τ : RSt} {b h0 : Int}
theorem WAl_no : ∀ p i, WAl p i → noR p := fun p i w => by
  unfold WAl at w
  unfold noR nRe nRw
  omega
theorem W180_A {D h e b : Int} : ∀ p i, W180 D h e b p i → WAl p i := fun p i w => by
  unfold WAl
  rcases w with q | q | q | q | q | q
  · omega
  · omega
  · omega
  · omega
  · omega
  · omega
theorem W184_A {D h e b : Int} : ∀ p i, W184 D h e b p i → WAl p i := fun p i w => by
  unfold WAl
  rcases w with q | q | q | q | q
  · omega
  · omega
  · omega
  · omega
  · omega
theorem W180_52 {D h e b : Int} {i : Nat} : ¬ W180 D h e b 252 i := fun w => by
  rcases w with q | q | q | q | q | q
  · omega
  · omega
  · omega
  · omega
  · omega
  · omega
theorem W184_33 {D h e b : Int} {i : Nat} : ¬ W184 D h e b 233 i := fun w => by
  rcases w with q | q | q | q | q
  · omega
  · omega
  · omega
  · omega
  · omega
/-- what stands as the loop over the declarations begins again -/
def ALp (K L : Int → Int) (B n b h0 : Int) (s : yS) (σ : RSt) (t : yS) : Prop := ∃ τ : RSt, RTk K L B n t ∧ RQr B n τ t ∧ GFx (s.1 26).toInt WAl s t ∧ (¬ τ.1 = 0 → p_al K L 4000 0 0 σ = τ) ∧ (τ.1 = 0 → ∃ Ls : List Int, ALr K L B t b h0 (s.1 26).toInt (t.1 26).toInt Ls ∧ (t.2.1 233 b.toNat).toInt = (kTy K Ls : Int) ∧ (t.2.1 252 b.toNat).toInt = (kFn K Ls : Int) ∧ (t.2.1 263 b.toNat).toInt = (Ls.length : Int) ∧ (t.1 42).toInt = h0 + (kHd K L Ls : Int) ∧ kTy K Ls ≤ 24 ∧ kFn K Ls ≤ 60 ∧ p_al K L (4000 - Ls.length) (kTy K Ls) (kFn K Ls) τ = p_al K L 4000 0 0 σ ∧ l_al K L 4000 0 0 σ = Ls ++ l_al K L (4000 - Ls.length) (kTy K Ls) (kFn K Ls) τ)
theorem pal_0 (N : Nat) : p_al K L (N - ([] : List Int).length) (kTy K []) (kFn K []) σ = p_al K L N 0 0 σ := rfl
theorem lal_0 (N : Nat) : l_al K L N 0 0 σ = [] ++ l_al K L (N - ([] : List Int).length) (kTy K []) (kFn K []) σ := rfl
set_option maxHeartbeats 4000000 in
theorem x_179 (hP : TXp K L n) (hT : RTk K L B n s) (g : RQr B n σ s) (hb : (s.1 30).toInt = b) (hb2 : 0 ≤ b) (h33 : (s.2.1 233 b.toNat).toInt = 0) (h52 : (s.2.1 252 b.toNat).toInt = 0) (h63 : (s.2.1 263 b.toNat).toInt = 0) (hh : (s.1 42).toInt = h0) (hh0 : 0 ≤ h0) : Par d 179 [.ref 213] s (fun v s' => v = none ∧ AQp K L B n b h0 s σ s') := by
  cases d with
  | zero => exact Par_0
  | succ d =>
    refine pb_179 ?_
    refine ⟨fun t => ALp K L B n b h0 s σ t, ⟨σ, hT, g, GFx_rf (Int.le_refl _), fun hf => pal_f hf _ _ _, fun _ => ⟨[], ALr_nil, h33, h52, h63, by rw [hh]; show h0 = h0 + ((0 : Nat) : Int); omega, Nat.zero_le _, Nat.zero_le _, pal_0 4000, lal_0 4000⟩⟩, ?_⟩
    rintro t ⟨τ, t1, t2, t3, t4, t5⟩
    have hN := t3.2.2.2
    have e30 : (t.1 30).toInt = b := by rw [t3.1 30 (by decide) (by decide) (by decide) (by decide) (by decide) (by decide)]; exact hb
    generalize hR : p_al K L 4000 0 0 σ = R at t4 t5
    generalize hLL : l_al K L 4000 0 0 σ = LL at t5
    have hlen : ∀ Ls : List Int, kTy K Ls ≤ 24 → kFn K Ls ≤ 60 → 4000 - Ls.length = (3999 - Ls.length) + 1 ∧ 4000 - (Ls.length + 1) = 3999 - Ls.length := fun Ls h1 h2 => by
      have := kTF (K := K) Ls
      omega
    -- main and the end
    have fin : (τ.1 = 0 → K τ.2 = 8) → ub_179_27 (Par d) t (fun v s' => v = none ∧ AQp K L B n b h0 s σ s') := by
      intro hk
      have eR : R = τ := by
        by_cases hz : τ.1 = 0
        · obtain ⟨Ls, -, -, -, -, -, c1, c2, c3, -⟩ := t5 hz
          rw [← c3, (hlen Ls c1 c2).1, pal_s, if_neg (fun w => w.2 (hk hz))]
        · exact t4 hz
      have eP : p_pg K L σ = e_k K L 0 (e_k K L 59 (p_e K L 10 false (e_k K L 8 τ))) := by
        unfold p_pg
        rw [hR, eR]
      unfold ub_179_27
      refine Par.imp (x_169 hP t1 t2 (a1 := 5) (by decide) (by decide)) ?_
      rintro v2 s1 ⟨rfl, p1, p2⟩
      rw [show (5 : Int32).toInt + 3 = 8 by decide] at p2
      refine ⟨rfl, fun s3 hs3 => ?_⟩
      have e326 : s3.1 26 = t.1 26 := by rw [hs3, sfr_1, if_neg (by decide)]; exact p1.2 26 (by decide) (by decide)
      have e330 : (s3.1 30).toInt = b := by rw [hs3, sfr_1, if_neg (by decide), p1.2 30 (by decide) (by decide)]; exact e30
      have T3 : RTk K L B n s3 := by rw [hs3]; exact RTk_eq (s := s1) rfl rfl rfl (RTk_78 p1 t1)
      have Q3 : RQr B n (e_k K L 8 τ) s3 := RQr_1 (s := s1) (by rw [hs3, sfr_1, if_neg (by decide)]) (by rw [hs3, sfr_1, if_neg (by decide)]) p2
      have G3 : GFx (t.1 26).toInt (fun p i => p = 259) t s3 := by
        rw [hs3]
        exact GFx_tr (Int.le_refl _) (GFx_78 p1 (Int.le_refl _)) (GFx_sf (by omega) (by rw [p1.2 26 (by decide) (by decide)]; exact Int.le_refl _))
      have no59 : ∀ p i : Nat, p = 259 → noR p := fun p i w => by
        unfold noR nRe nRw
        omega
      have last : ∀ (x6 : Int32) (u : yS), RTk K L B n u → RQr B n (p_e K L 10 false (e_k K L 8 τ)) u → EFx (t.1 26).toInt s3 u → ((p_e K L 10 false (e_k K L 8 τ)).1 = 0 → 0 ≤ (t.1 26).toInt ∧ (t.1 26).toInt ≤ x6.toInt ∧ x6.toInt < (u.1 26).toInt ∧ eT K L B u 10 (t.1 26).toInt (u.1 26).toInt (e_k K L 8 τ).2 x6.toInt) → ub_179_44 (Par d) (s3.1 30) x6 u (fun v s' => v = none ∧ AQp K L B n b h0 s σ s') := by
        intro x6 u u1 u2 u3 u4
        have uN := u3.2.2.2
        unfold ub_179_44
        rw [e330]
        rintro - s4 hs4
        have e4 : s4.1 = u.1 := by rw [hs4]; rfl
        have G4 : GFx (u.1 26).toInt (fun p i => p = 259) u s4 := by
          rw [hs4]
          exact GFx_sa rfl (Int.le_refl _)
        refine Par.imp (x_167 hP (GFx_tk no59 G4 u1) (RQr_1 (s := u) (by rw [e4]) (by rw [e4]) u2) (a1 := 59) (by decide)) ?_
        rintro v5 s5 ⟨rfl, q1, q2⟩
        rw [show (59 : Int32).toInt = 59 by decide] at q2
        have G5 : GFx (t.1 26).toInt (fun p i => p = 259) t s5 := GFx_tr uN (GFx_tr (Int.le_refl _) G3 (GFx_E u3)) (GFx_tr (Int.le_refl _) G4 (GFx_78 q1 (by rw [e4]; exact Int.le_refl _)))
        have F5 : GFx (s.1 26).toInt WAl s s5 := GFx_tr hN t3 (GFx_mo (fun p i w => ⟨by omega, by omega⟩) G5)
        have T5 : RTk K L B n s5 := RTk_78 q1 (GFx_tk no59 G4 u1)
        have e526 : s5.1 26 = u.1 26 := by rw [q1.2 26 (by decide) (by decide), e4]
        -- at the end: z differs in the fault alone
        have done : ∀ z : yS, R78 s5 z → (z.1 8).toInt = (p_pg K L σ).1 → ub_179_62 (Par d) z (fun v s' => v = none ∧ AQp K L B n b h0 s σ s') := by
          intro z z1 z2
          unfold ub_179_62
          have e26z : z.1 26 = s5.1 26 := z1.2 26 (by decide) (by decide)
          refine ⟨rfl, RTk_78 z1 T5, z2, GFx_tr (Int.le_refl _) F5 (GFx_78 z1 F5.2.2.2), fun hf => ?_⟩
          rw [eP] at hf
          have f1 := (ek_0 hf).1
          have f2 := (ek_0 f1).1
          have f3 := (pe_fw 10 _ _ f2).1
          obtain ⟨f4, f5, f6⟩ := ek_0 f3
          obtain ⟨Ls, c1, c2, c3, c4, c5, c6, c7, c8, c9⟩ := t5 f4
          have eL : LL = Ls := by rw [c9, (hlen Ls c6 c7).1, lal_s, if_neg (fun w => w.2 (hk f4)), List.append_nil]
          have G5z : GFx (t.1 26).toInt (fun p i => p = 259) t z := GFx_tr (Int.le_refl _) G5 (GFx_78 z1 G5.2.2.2)
          rw [hLL, eL, hR, eR]
          have rk : ∀ q : Nat, 233 ≤ q → ¬ q = 259 → ∀ j, z.2.1 q j = t.2.1 q j := fun q hq hq2 j => GFx_rd G5z hq (fun w => hq2 w)
          have e42z : z.1 42 = t.1 42 := by rw [z1.2 42 (by decide) (by decide), q1.2 42 (by decide) (by decide), e4, u3.1 42 (by decide) (by decide) (by decide) (by decide) (by decide), hs3, sfr_1, if_neg (by decide), p1.2 42 (by decide) (by decide)]
          obtain ⟨d1, d2, d3, d4⟩ := u4 f2
          refine ⟨ALr_wi (Int.le_refl _) G5z.2.2.2 (ALr_fr hb2 hh0 no59 G5z (Int.le_refl _) (fun D p i _ _ w q => by omega) (fun k p i _ w q => by have := W183_lo w; omega) (fun p i w _ q => by omega) (fun i _ q => by omega) c1), by rw [rk 233 (by omega) (by omega)]; exact c2, by rw [rk 252 (by omega) (by omega)]; exact c3, by rw [rk 263 (by omega) (by omega)]; exact c4, by rw [e42z]; exact c5, c6, c7, ?_⟩
          rw [f6] at d4
          refine ⟨(t.1 26).toInt, (u.1 26).toInt, x6.toInt, hN, by rw [e26z, e526]; exact Int.le_refl _, d1, ⟨d2, d3⟩, ?_, ?_⟩
          · rw [z1.1, q1.1, hs4, sa_21, if_pos ⟨rfl, rfl⟩]
          · have a1 := eT_eq 10 _ _ _ _ d4 (GFx_eRq no59 G4 (Int.le_refl _) d1)
            have a2 := eT_eq 10 _ _ _ _ a1 (s' := s5) ⟨fun _ _ _ _ _ => by rw [q1.1], fun _ _ _ _ => by rw [q1.1]⟩
            exact eT_eq 10 _ _ _ _ a2 ⟨fun _ _ _ _ _ => by rw [z1.1], fun _ _ _ _ => by rw [z1.1]⟩
        refine ⟨rfl, fun w => ?_, fun w => ?_⟩
        · have hf : ¬ (e_k K L 59 (p_e K L 10 false (e_k K L 8 τ))).1 = 0 := by rw [← q2.1]; exact w
          refine done s5 R78_rf ?_
          rw [eP, ek_f hf]
          exact q2.1
        · have hz : (e_k K L 59 (p_e K L 10 false (e_k K L 8 τ))).1 = 0 := by rw [← q2.1]; exact w
          obtain ⟨y1, y2, y3⟩ := q2.2 hz
          rw [y1]
          have hkk := kR_0 (T5 _ y2 y3).1
          refine fun _ => ⟨fun w0 => ?_, fun w0 => ?_⟩
          · refine done s5 R78_rf ?_
            rw [eP, ek_y hz (hkk.mp w0)]
            exact w
          · have hne : ¬ K (e_k K L 59 (p_e K L 10 false (e_k K L 8 τ))).2 = 0 := fun q => w0 (hkk.mpr q)
            refine Par.imp (x_163h T5 q2 (w := 1) (by decide) (by decide) (fun _ => rfl)) ?_
            rintro v7 s7 ⟨rfl, j1, j2, j3⟩
            rw [if_pos hz] at j3
            refine ⟨rfl, done s7 j1 ?_⟩
            rw [eP]
            unfold e_k at *
            rw [if_pos hz, if_neg hne]
            exact j3.1
      refine ⟨fun w => ?_, fun w => ?_⟩
      · have hf : ¬ (e_k K L 8 τ).1 = 0 := by rw [← Q3.1]; exact w
        refine last (-1) s3 T3 (by rw [pe_f 10 hf]; exact Q3) ⟨fun _ _ _ _ _ _ => rfl, rfl, fun _ _ _ _ => rfl, by rw [e326]; exact Int.le_refl _⟩ (fun w2 => ?_)
        rw [pe_f 10 hf] at w2
        exact absurd w2 hf
      · refine Par.imp ((x_18 hP d).1 10 _ s3 (by omega) ⟨T3, Q3, by rw [hs3, sfr_1, if_pos rfl]; decide⟩) ?_
        rintro v5 s4 ⟨x6, rfl, c1, c2, c3, c4, c5, c6⟩
        rw [e326] at c1 c2 c4 c6
        exact ⟨x6, rfl, last x6 s4 c5.1 c5.2.1 c4 (fun hf => ⟨c1, c2, c3, (c6 hf).1⟩)⟩
    unfold ub_179_0
    refine ⟨fun w => fin (fun q => absurd q (by rw [← t2.1]; exact w)), fun w => ?_⟩
    have hz : τ.1 = 0 := by rw [← t2.1]; exact w
    obtain ⟨Ls, c1, c2, c3, c4, c5, c6, c7, c8, c9⟩ := t5 hz
    obtain ⟨l1, l2⟩ := hlen Ls c6 c7
    have lTF := kTF (K := K) Ls
    refine Par.imp (x_165 t1 t2 (a1 := 5) (by decide) (by decide)) ?_
    rintro v2 s1 ⟨rfl, x3, rfl, hr⟩
    rw [show (5 : Int32).toInt + 3 = 8 by decide] at hr
    refine ⟨x3, rfl, fun w3 => ?_, fun w3 => ?_⟩
    · rcases hr with ⟨-, z1⟩ | ⟨z1, -⟩
      · exact fin (fun _ => (tk_t z1).2)
      · omega
    rcases hr with ⟨z1, -⟩ | ⟨-, z1⟩
    · omega
    have h8 : ¬ K τ.2 = 8 := fun q => by
      rw [show t_k K 8 τ = true from decide_eq_true ⟨hz, q⟩] at z1
      cases z1
    rw [l1, pal_s, if_pos ⟨hz, h8⟩] at c8
    rw [l1, lal_s, if_pos ⟨hz, h8⟩] at c9
    refine Par.imp (x_165 t1 t2 (a1 := 0) (by decide) (by decide)) ?_
    rintro v5 s4 ⟨rfl, x6, rfl, hr⟩
    rw [show (0 : Int32).toInt + 3 = 3 by decide] at hr
    refine ⟨x6, rfl, fun w6 => ?_, fun w6 => ?_⟩
    · rcases hr with ⟨z2, -⟩ | ⟨-, z2⟩
      · omega
      have h3 : ¬ K τ.2 = 3 := fun q => by
        rw [show t_k K 3 τ = true from decide_eq_true ⟨hz, q⟩] at z2
        cases z2
      refine Par.imp (x_165 t1 t2 (a1 := 3) (by decide) (by decide)) ?_
      rintro v8 s7 ⟨rfl, x9, rfl, hr⟩
      rw [show (3 : Int32).toInt + 3 = 6 by decide] at hr
      refine ⟨x9, rfl, fun w9 => ?_, fun w9 => ?_⟩
      · rcases hr with ⟨z3, -⟩ | ⟨-, z3⟩
        · omega
        have h6 : ¬ K τ.2 = 6 := fun q => by
          rw [show t_k K 6 τ = true from decide_eq_true ⟨hz, q⟩] at z3
          cases z3
        rw [if_neg h6, pty_n hz h3, pal_f (by dsimp only; omega)] at c8
        refine Par.imp (x_163h t1 t2 (w := 1) (by decide) (by decide) (fun _ => rfl)) ?_
        rintro v11 s10 ⟨rfl, j1, j2, j3⟩
        rw [if_pos hz] at j3
        refine ⟨rfl, _, RTk_78 j1 t1, j3, GFx_tr (Int.le_refl _) t3 (GFx_78 j1 hN), fun _ => by rw [hR]; exact c8.symm, fun hf => ?_⟩
        dsimp only at hf
        omega
      · rcases hr with ⟨-, z3⟩ | ⟨z3, -⟩
        · have h6 := (tk_t z3).2
          rw [if_pos h6] at c8 c9
          refine Par.imp (x_184 hP t1 t2 z3 e30 c4 (by omega) c3 c7 (by omega)) ?_
          rintro v13 s12 ⟨rfl, j1, j2, j3, j4⟩
          refine ⟨rfl, _, j1, j2, GFx_tr hN t3 (GFx_mo W184_A j3), fun hf => ?_, fun hf => ?_⟩
          · rw [pal_f hf] at c8
            rw [hR, c8]
          · have hF : kFn K Ls < 60 := by
              rcases Nat.lt_or_ge (kFn K Ls) 60 with h | h
              · exact h
              · exfalso
                rw [decide_eq_true h, pfn_t hz] at hf
                dsimp only at hf
                omega
            obtain ⟨m1, m2, m3, m4, m5⟩ := j4 hf
            rw [c5] at m1 m2 j3
            have jN := j3.2.2.2
            have el : (Ls ++ [τ.2]).length = Ls.length + 1 := by
              rw [List.length_append]
              rfl
            have e1 : kTy K (Ls ++ [τ.2]) = kTy K Ls := by rw [kTy_app, if_pos h6]; omega
            have e2 : kFn K (Ls ++ [τ.2]) = kFn K Ls + 1 := by rw [kFn_app, if_pos h6]
            have e3 : kHd K L (Ls ++ [τ.2]) = kHd K L Ls + 1 := by rw [kHd_app, if_pos h6]
            refine ⟨Ls ++ [τ.2], ?_, ?_, ?_, ?_, ?_, by omega, by omega, ?_, ?_⟩
            · refine ALr_add (ALr_wi (Int.le_refl _) jN (ALr_fr hb2 hh0 W184_no j3 (Int.le_refl _) (fun D p i _ _ w => W184_t (by omega)) (fun k p i hk w => W184_h hk w) (fun p i w hi => W184_f hi w rfl) (fun i hi => W184_e hi) c1)) (fun _ => ⟨m3, FNr_wi hN (Int.le_refl _) m1⟩) (fun w => absurd h6 w)
            · rw [e1, GFx_rd j3 (by omega) W184_33]
              exact c2
            · rw [e2, m5]
              omega
            · rw [el, m4]
              omega
            · rw [e3, m2]
              omega
            · rw [el, e1, e2, l2, hR]
              exact c8
            · rw [el, e1, e2, l2, hLL, c9]
              simp
        · omega
    · rcases hr with ⟨-, z2⟩ | ⟨z2, -⟩
      · have h3 := (tk_t z2).2
        have h6 : ¬ K τ.2 = 6 := by rw [h3]; decide
        rw [if_neg h6] at c8 c9
        refine Par.imp (x_180 hP t1 t2 z2 e30 c4 (by omega) c2 c6 (by omega)) ?_
        rintro v13 s12 ⟨rfl, j1, j2, j3, j4⟩
        refine ⟨rfl, _, j1, j2, GFx_tr hN t3 (GFx_mo W180_A j3), fun hf => ?_, fun hf => ?_⟩
        · rw [pal_f hf] at c8
          rw [hR, c8]
        · have hF : kTy K Ls < 24 := by
            rcases Nat.lt_or_ge (kTy K Ls) 24 with h | h
            · exact h
            · exfalso
              rw [decide_eq_true h, pty_t hz h3] at hf
              dsimp only at hf
              omega
          obtain ⟨m1, m2, m3, m4, m5, m6⟩ := j4 hf
          have eτ : τ = (0, τ.2) := by rw [← hz]
          rw [c5] at m1 m2 m3 j3
          have jN := j3.2.2.2
          have el : (Ls ++ [τ.2]).length = Ls.length + 1 := by
            rw [List.length_append]
            rfl
          have e1 : kTy K (Ls ++ [τ.2]) = kTy K Ls + 1 := by rw [kTy_app, if_neg h6]
          have e2 : kFn K (Ls ++ [τ.2]) = kFn K Ls := by rw [kFn_app, if_neg h6]; omega
          have e3 : kHd K L (Ls ++ [τ.2]) = kHd K L Ls + tNh K L false (0, τ.2) := by rw [kHd_app, if_neg h6]
          rw [eτ] at m1 m2 m3
          rw [tNh_eq] at m3
          refine ⟨Ls ++ [τ.2], ?_, ?_, ?_, ?_, ?_, by omega, by omega, ?_, ?_⟩
          · refine ALr_add (ALr_wi (Int.le_refl _) jN (ALr_fr hb2 hh0 W180_no j3 (Int.le_refl _) (fun D p i hD _ w => W180_t hD w) (fun k p i hk w => W180_h hk w) (fun p i w _ => W180_f w) (fun i hi => W180_e hi) c1)) (fun w => absurd w h6) (fun _ => ⟨m4, TYb_wi hN (Int.le_refl _) m1, TYm_wi hN (Int.le_refl _) m2⟩)
          · rw [e1, m6]
            omega
          · rw [e2, GFx_rd j3 (by omega) W180_52]
            exact c3
          · rw [el, m5]
            omega
          · rw [e3, m3]
            omega
          · rw [el, e1, e2, l2, hR]
            exact c8
          · rw [el, e1, e2, l2, hLL, c9]
            simp
      · omega
end RAW
