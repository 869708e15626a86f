/-! ===== the reference: implement, whole ===== -/
section YUI
variable {ar kd : Int → Int} {cf : Nat → Int} {fs : Nat → Nat} {F H d e : Nat} {nT : Int} {tm tn : Int → Nat} {hd : Nat → Nat × Nat × List (List Int)} {hb ow hw : Nat → Int} {Bf : Int → List (List Int)} {b A T ca cb β0 β1 nX nY : Int} {s u : yS} {a1 a2 a3 a4 : Int32} {A' B' : List Int} {bn : Int → List Int}
/-- what tells the METHODS of a PARAM is an interface -/
theorem sp_own (hG : PGr ar kd cf fs F H nT tm tn hd hb ow hw Bf b A s) (hSP : SPe ar cf F H nT hd hb ow Bf β0 β1 nX nY bn) (hc1 : 24 ≤ ca ∧ ca < 36) (hcX : ca < 30 → ca - 24 < nX) (hcY : 30 ≤ ca → ca - 30 < nY) : isR ar 1 (bn ca) ∧ ((bn ca).length ≤ 60 ∧ cdT nT (bn ca)) ∧ cdW nX nY (bn ca) ∧ kd ((bn ca).headD 0) = 2 := by
  obtain ⟨-, gt, -, -, gh, -, ha, -⟩ := hG
  obtain ⟨hbo, p2, p3⟩ := hSP
  by_cases h30 : ca < 30
  · have hx := hcX h30
    rcases p2 with q | ⟨c, q1, q2, q3, -⟩
    · omega
    · have q5 := q3 (ca - 24).toNat (by omega)
      rw [show 24 + (((ca - 24).toNat : Nat) : Int) = ca by omega] at q5
      obtain ⟨-, -, t3, t4, -⟩ := gt c q1.1 q1.2
      obtain ⟨u1, u2, u3, u4, u5⟩ := t4 _ (getD_mem (L := Bf c) (k := (ca - 24).toNat) (by omega))
      rw [q5]
      refine ⟨u2, ⟨u3, u5⟩, fun x hx => ?_, u4⟩
      obtain ⟨v1, v2, v3, v4⟩ := u1 x hx
      exact ⟨v1, v2, fun w1 w2 => by have := v3 w1 w2; omega, fun w1 => by have := v4 w1; omega⟩
  · have hy := hcY (by omega)
    rcases p3 with q | ⟨h, q1, q2, q3, q4, q45, q5⟩
    · omega
    · have q6 := q5 (ca - 30).toNat (by omega)
      rw [show 30 + (((ca - 30).toNat : Nat) : Int) = ca by omega] at q6
      obtain ⟨⟨-, ⟨k1, k2, k3⟩, k4, -⟩, kb, ⟨k5, k6, k7⟩, -⟩ := gh h q1
      have hm := getD_mem (L := (hd h).2.2) (k := (ca - 30).toNat) (by omega)
      obtain ⟨u1, u2, u3⟩ := k4 _ hm
      rw [q6]
      refine ⟨u2, ⟨u3, k6 _ hm⟩, fun x hx => ?_, k7 _ (by omega)⟩
      obtain ⟨v1, v2, v3, v4⟩ := u1 x hx
      refine ⟨v1, v2, fun w1 w2 => ?_, fun w1 => by have := v4 w1; omega⟩
      have hv := v3 w1 w2
      omega
set_option maxHeartbeats 4000000 in
/-- implement -/
theorem x_195 (hG : PGr ar kd cf fs F H nT tm tn hd hb ow hw Bf b A s) (hSP : SPe ar cf F H nT hd hb ow Bf β0 β1 nX nY bn) (hT : (s.1 64).toInt = T) (hA : A ≤ T) (he : (s.1 70).toInt = (e : Int)) (hAe : TYe ar nT β0 β1 nX nY T s a1.toInt (ca :: A')) (h2 : a2.toInt = ((ca :: A').length : Int)) (hBe : TYe ar nT β0 β1 nX nY T s a3.toInt (cb :: B')) (h4 : a4.toInt = ((cb :: B').length : Int)) : Par d 195 [.ref 213, .int a1, .int a2, .int a3, .int a4] s (ALq T (e : Int) (cvA (mtV ar kd (rso kd cf fs F tm tn hw) hw hd tm tn (ca :: A') (ownT bn (ca :: A')) (cb :: B'))) s) := by
  cases d with
  | zero => exact Par_0
  | succ d =>
    have hGs := hG
    obtain ⟨⟨g75, gb, gA, gH, gF, gT⟩, gt, -, gi, -, -, ha, -⟩ := hG
    have hbo := hSP.1
    have cA := hAe.2.2.2.2 ca List.mem_cons_self
    have cB := hBe.2.2.2.2 cb List.mem_cons_self
    have tB := hBe.2.2.2.1.2 cb List.mem_cons_self
    have tA := hAe.2.2.2.1.2 ca List.mem_cons_self
    have hb0 : 1000 ≤ β0 ∧ 1000 ≤ β1 := by
      unfold bOK at hbo
      omega
    have rlo : ∀ c : Int, c < 24 → rhC β0 β1 c = c := fun c hc => if_pos hc
    have rhi : ∀ c : Int, 24 ≤ c → 1000 ≤ rhC β0 β1 c := fun c hc => by
      unfold rhC
      rw [if_neg (by omega)]
      by_cases h1 : c < 30
      · rw [if_pos h1]
        omega
      · rw [if_neg h1]
        by_cases h2 : c < 36
        · rw [if_pos h2]
          omega
        · rw [if_neg h2]
          omega
    have elA : ∀ {t : yS}, RWel t a1.toInt ((ca :: A').map (rhE ar β0 β1)) → 0 ≤ a1.toInt → (t.2.1 264 a1.toInt.toNat).toInt / 8 = rhC β0 β1 ca := fun {t} h h0 => by
      rw [RWel_at (i := 0) h rfl (by omega) h0]
      exact rhE_d (ha ca)
    have same : ¬ kd cb = 2 → ∀ x3 : Int32, ub_195_19 (Par d) a1 a2 a3 a4 x3 s (ALq T (e : Int) (cvA (mtV ar kd (rso kd cf fs F tm tn hw) hw hd tm tn (ca :: A') (ownT bn (ca :: A')) (cb :: B'))) s) := by
      intro hk x3
      have eV : mtV ar kd (rso kd cf fs F tm tn hw) hw hd tm tn (ca :: A') (ownT bn (ca :: A')) (cb :: B') = if ca :: A' = cb :: B' then 0 else 7 := if_neg hk
      rw [eV]
      unfold ub_195_19
      refine Par.imp (x_187 (E := (ca :: A').map (rhE ar β0 β1)) (E' := (cb :: B').map (rhE ar β0 β1)) (by rw [List.length_map]; exact h2) (by rw [List.length_map]; exact h4) hAe.2.1 hBe.2.1) ?_
      rintro v2 s1 ⟨hs1, x5, rfl, hx⟩
      subst hs1
      refine ⟨x5, rfl, fun w => ⟨WFr_rf, ⟨rfl, rfl, he⟩, 0, rfl, ?_⟩, fun w => ⟨WFr_rf, ⟨rfl, rfl, he⟩, 1, rfl, ?_⟩⟩
      · rcases hx with ⟨q, -⟩ | ⟨-, q⟩
        · omega
        · rw [if_neg (fun z => q (by rw [z]))]
          decide
      · rcases hx with ⟨-, q⟩ | ⟨q, -⟩
        · rw [if_pos (enc_inj ha hbo _ _ (fun c hc => ?_) (fun c hc => ?_) q)]
          · decide
          · have := hAe.2.2.2.2 c hc
            omega
          · have := hBe.2.2.2.2 c hc
            omega
        · exact absurd q w
    refine pb_195 ?_
    unfold ub_195_0
    intro ka3
    refine Par.imp x_185 ?_
    rintro v2 s1 ⟨hs1, x3, rfl, hx3⟩
    rw [RWel_at (i := 0) hBe.2.1 rfl (by omega) ka3.1, rhE_d (ha cb)] at hx3
    refine ⟨x3, rfl, ?_⟩
    rw [hs1]
    refine ⟨fun w => same (fun q => ?_) x3, fun w _ x4 hx4 _ x5 hx5 _ => ?_⟩
    · have := (gi cb q).1
      rw [rlo cb (by omega)] at hx3
      omega
    have hcb : cb < 24 := by
      rcases Int.lt_or_le cb 24 with q | q
      · exact q
      · have := rhi cb q
        omega
    rw [rlo cb hcb] at hx3
    have e5 : x5.toInt = 24 * b + cb := by omega
    obtain ⟨kB, -⟩ := gt cb cB.1 (tB hcb)
    rw [e5]
    refine ⟨fun w2 ka1 => ?_, fun w2 => same (fun q => ?_) x3⟩
    · have hk2 : kd cb = 2 := by
        rcases kB with q | q
        · omega
        · exact q.1
      have eV : mtV ar kd (rso kd cf fs F tm tn hw) hw hd tm tn (ca :: A') (ownT bn (ca :: A')) (cb :: B') = mtL (rso kd cf fs F tm tn hw ((ownT bn (ca :: A')).headD 0)) hw hd (eta (argT ar (cb :: B')) sTn) (eta (argT ar (ownT bn (ca :: A'))) sTn) (tm cb) (tn cb) := if_pos hk2
      refine Par.imp x_185 ?_
      rintro v7 s6 ⟨hs6, x8, rfl, hx8⟩
      rw [elA hAe.2.1 ka1.1] at hx8
      refine ⟨x8, rfl, ?_⟩
      rw [hs6]
      refine ⟨fun w3 => ?_, fun w3 _ => ?_⟩
      · have hca : ca < 24 := by
          rcases Int.lt_or_le ca 24 with q | q
          · exact q
          · have := rhi ca q
            omega
        have eO : ownT bn (ca :: A') = ca :: A' := if_pos hca
        rw [eO] at eV
        rw [eO]
        exact im_52 (co := ca) (O' := A') hGs hbo WFr_rf rfl he hT (Int.le_refl _) hA rfl hx3 hk2 hBe hAe ⟨cA.1, tA hca⟩ eV
      · have hca : 24 ≤ ca := by
          rcases Int.lt_or_le ca 24 with q | q
          · rw [rlo ca q] at hx8
            omega
          · exact q
        obtain ⟨o1, o2, o3, o4⟩ := sp_own hGs hSP ⟨hca, cA.2.1⟩ (fun z => cA.2.2.1 hca z) cA.2.2.2
        obtain ⟨co, O', eO⟩ : ∃ co O', bn ca = co :: O' := by
          cases hbn : bn ca with
          | nil => exact absurd hbn (isR_ne o1)
          | cons x l => exact ⟨x, l, rfl⟩
        have eO2 : ownT bn (ca :: A') = co :: O' := by
          rw [← eO]
          exact if_neg (by show ¬ ca < 24; omega)
        rw [eO2] at eV
        rw [eO2]
        rw [eO] at o1 o2 o3 o4
        have hco := (gi co o4).1
        refine Par.imp x_185 ?_
        rintro v10 s9 ⟨hs9, x11, rfl, hx11⟩
        rw [elA hAe.2.1 ka1.1] at hx11
        refine ⟨x11, rfl, ?_⟩
        rw [hs9]
        refine Par.imp (x_194 (ca := ca) hGs hSP ⟨hca, cA.2.1⟩ (fun z => cA.2.2.1 hca z) cA.2.2.2 hx11 hT hA he) ?_
        rintro v13 s12 ⟨rfl, W12, ⟨f8, f70, f73, f74⟩, p, p71, pT, p72, p64, pw⟩
        rw [eO] at p72 p64 pw
        rw [List.length_map] at p72 p64
        refine ⟨rfl, ?_⟩
        exact im_52 (T' := p + ((co :: O').length : Int)) (co := co) (O' := O') hGs hbo W12 f8 f70 p64 (by omega) hA rfl hx3 hk2 (TYe_T (by omega) (TYe_w W12 hBe)) ⟨by rw [p71]; exact ⟨by have := hAe.1; omega, Int.le_refl _⟩, by rw [p71]; exact pw, o1, o2, o3⟩ hco eV
    · rcases kB with q2 | q2
      · omega
      · exact w2 q2.2
end YUI
