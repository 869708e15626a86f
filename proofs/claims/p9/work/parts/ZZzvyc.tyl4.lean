/-! ===== the reference: the nodes of an E and its code: the points, every level ===== -/
section ZVYC
variable {K L W ar kd : Int → Int} {TN Ls : List Int} {nI lo' hi' : Int} {own : Nat → Nat × Nat} {b n N T F H S0 : Nat} {G : PG} {s : yS} {Ag β0 β1 Z : Int} {S' : Scp} {S O : Nat} {A0 A1 : Int} {fo : Option Nat} {m m' : Nat} {t : Int}
theorem mvD_nn (X Y M : List Int) : 0 ≤ mvD K L W ar kd TN Ls X Y M := by
  unfold mvD
  rcases mtV_b (ar := ar) (kd := kd) (so := soD K L W kd TN Ls) (hw := hwd K L W Ls) (hd := hdd K L W ar TN Ls) (tm := tmd K L Ls) (tn := tnd K L Ls) (A := X) (O := Y) (D := M) with q | q | q
  · rw [q]
    decide
  · rw [q]
    decide
  · rw [q]
    decide
set_option maxHeartbeats 16000000 in
theorem ty_pts (hT : TWd K L W ar kd TN Ls nI lo' hi' own b n N T F H S0 G Ag s) (hS : TSc K L W ar kd TN Ls nI lo' hi' H G fo β0 β1 S') (hZ : A1 ≤ Z) (hm' : m' ≤ 9) (ih : ∀ (lo hi e : Nat) (A : List Nat) (x y t : Int), wE G H b n (scX G fo) (tVX G fo) S O s m lo hi e A → eC K L W ar kd TN Ls (4002 * (b : Int)) β0 β1 S' A0 A1 s m' x y t (e : Int) → (p_e K L m' false (0, t)).1 = 0 → (exE6 K L W ar kd TN Ls S' m' t).1 = 0 → 0 ≤ t → nxE K L t ≤ nI → nNd ar β0 β1 Z (wHr (b : Int) s) (hwd K L W Ls) (kHd K L Ls) s (21 * m') (e : Int) (ciE K L W ar kd TN Ls S' m' t)) (hHO : HOk K L m' t) (ht0 : 0 ≤ t) {x : Int} : ∀ (k : Nat) (y a e : Int) (p lo hi eN : Nat) (A : List Nat), (eN : Int) = e → wEp G H b n (scX G fo) (tVX G fo) S O s (wE G H b n (scX G fo) (tVX G fo) S O s m) p lo hi eN A → ePc K L W ar kd TN Ls (4002 * (b : Int)) β0 β1 S' A0 A1 s m' (eC K L W ar kd TN Ls (4002 * (b : Int)) β0 β1 S' A0 A1 s m') (exE6 K L W ar kd TN Ls S' m') x t k y a e → (∀ j, j < k → POk K L m' (aIt K L j (aHd K L t))) → (∀ j, j ≤ k → (exS K L W ar kd TN Ls S' (exE6 K L W ar kd TN Ls S' m') j (aHd K L t) (exH K L W ar kd TN Ls S' (exE6 K L W ar kd TN Ls S' m') t)).1 = 0) → aIt K L k (aHd K L t) ≤ nI → A = enN ar β0 β1 (exS K L W ar kd TN Ls S' (exE6 K L W ar kd TN Ls S' m') k (aHd K L t) (exH K L W ar kd TN Ls S' (exE6 K L W ar kd TN Ls S' m') t)).2 ∧ TGo ar (TN.length : Int) (S'.2.1.length : Int) (S'.1.length : Int) (exS K L W ar kd TN Ls S' (exE6 K L W ar kd TN Ls S' m') k (aHd K L t) (exH K L W ar kd TN Ls S' (exE6 K L W ar kd TN Ls S' m') t)).2 ∧ nNd ar β0 β1 Z (wHr (b : Int) s) (hwd K L W Ls) (kHd K L Ls) s (21 * m' + 1 + k) e (ciH K L W ar TN S' (ciE K L W ar kd TN Ls S' m') t ++ ciS K L W ar kd TN Ls S' (exE6 K L W ar kd TN Ls S' m') (ciE K L W ar kd TN Ls S' m') k (aHd K L t) (exH K L W ar kd TN Ls S' (exE6 K L W ar kd TN Ls S' m') t))
  | 0, y, a, e, p, lo, hi, eN, A, hx, hw, hc, hP, h0, hn => by
    obtain ⟨⟨rfl, h1, h2⟩, h3⟩ := hc
    obtain ⟨⟨B0, bI, hW⟩, ⟨hV, hVl⟩, -⟩ := id hS
    obtain ⟨-, -, -, ⟨l1, l2, l3⟩, -⟩ := hW.2.1
    have hr0 := h0 0 (Nat.le_refl _)
    obtain ⟨g1, g2⟩ := ty_head hT hS hZ hm' ih hw hx h1 h3 hHO hr0 ht0 hn
    refine ⟨g1, exH_g hW.1 hV hVl l1 l2 (by omega) hHO hr0, ?_⟩
    have e0 : ciS K L W ar kd TN Ls S' (exE6 K L W ar kd TN Ls S' m') (ciE K L W ar kd TN Ls S' m') 0 (aHd K L t) (exH K L W ar kd TN Ls S' (exE6 K L W ar kd TN Ls S' m') t) = [] := rfl
    rw [e0, List.append_nil]
    exact g2
  | k + 1, y, a, e, p, lo, hi, eN, A, hx, hw, hc, hP, h0, hn => by
    obtain ⟨hPR, hG, hC, hTn, hFn, hwd', hFD⟩ := id hT
    obtain ⟨⟨B0, bI, hW⟩, ⟨hV, hVl⟩, hβ, hSH, hVX⟩ := id hS
    obtain ⟨-, -, -, ⟨l1, l2, l3⟩, -⟩ := hW.2.1
    obtain ⟨ha, h24⟩ := PR_ar hPR
    have hbo := hW.2.2.1.1
    unfold bOK at hbo
    have hγ : 0 ≤ β0 ∧ 0 ≤ β1 := by omega
    obtain ⟨y0, a0, e0, h1, k46, he, hPt, ha', hcP⟩ := hc
    have ea0 := (ePc_ch k _ _ _ h1).1
    obtain ⟨lt1, lt2, lt3⟩ := ePc_lt h1
    have hPk := hP k (Nat.lt_succ_self k)
    rw [← ea0] at hPk
    have mo := aIt_lt (by omega) hP
    have e00 : aIt K L 0 (aHd K L t) = aHd K L t := rfl
    have mo0 := mo 0 k (Nat.zero_le _) (Nat.le_succ k)
    have mo1 := mo k (k + 1) (Nat.le_succ k) (Nat.le_refl _)
    have eaP : aIt K L (k + 1) (aHd K L t) = aPt K L a0 := by
      rw [ea0]
      rfl
    have hHt : t < aHd K L t := by
      by_cases hc : K (t + 1) = 123 ∨ K (t + 1) = 91
      · obtain ⟨hp', hO⟩ := hHO.2 hc
        have q1 := nxT_gt (m := m') (by omega) hp'
        have q2 := (AOk_o (by omega) hO).1
        omega
      · have : aHd K L t = t + 1 := if_neg hc
        omega
    obtain ⟨po1, po2, po3, po4⟩ := POk_o (by omega) hPk
    obtain ⟨p1, p2, p3, p4⟩ := id hPt
    have ex : e.toNat = eN := by omega
    rw [ex] at p2 p3 p4
    cases p with
    | zero =>
      obtain ⟨q1, q2, q3, -⟩ := hw
      omega
    | succ p =>
    obtain ⟨q1, a', A0', q2, q3, q4, q5, q6, q7⟩ := hw
    have ee0 : (a' : Int) = e0 := by omega
    obtain ⟨i1, i2, i3⟩ := ty_pts hT hS hZ hm' ih hHO ht0 k y0 a0 e0 p lo eN a' A0' ee0 q4 h1 (fun j hj => hP j (by omega)) (fun j hj => h0 j (by omega)) (by omega)
    have ea1 := ea0
    obtain ⟨evT, hevT⟩ : ∃ evT, evT = exE6 K L W ar kd TN Ls S' m' := ⟨_, rfl⟩
    obtain ⟨cdd, hcd⟩ : ∃ cdd, cdd = ciE K L W ar kd TN Ls S' m' := ⟨_, rfl⟩
    obtain ⟨r0, hr0⟩ : ∃ r0, r0 = exH K L W ar kd TN Ls S' evT t := ⟨_, rfl⟩
    obtain ⟨ah, hah⟩ : ∃ ah, ah = aHd K L t := ⟨_, rfl⟩
    rw [← hevT, ← hr0, ← hah] at i1 i2 hcP
    rw [← hevT, ← hr0, ← hah, ← hcd] at i3
    rw [← hevT, ← hr0, ← hah] at h0
    rw [← hah] at ea0
    rw [← hevT, ← hr0, ← hah, ← hcd]
    obtain ⟨ri, hri⟩ : ∃ ri, ri = exS K L W ar kd TN Ls S' evT k ah r0 := ⟨_, rfl⟩
    rw [← hri] at i1 i2 hcP
    have h46 : ∀ j, j < k + 1 → K (aIt K L j ah) = 46 := fun j hj => by
      rw [hah]
      exact (hP j hj).1
    have hrk := h0 k (Nat.le_succ k)
    have eSn : exS K L W ar kd TN Ls S' evT (k + 1) ah r0 = exO K L W ar kd TN Ls S' evT a0 ri.2 := by
      rw [exS_snoc k ah r0 h46, if_pos hrk, ← hri, ← ea0]
    have eCn : ciS K L W ar kd TN Ls S' evT cdd (k + 1) ah r0 = ciS K L W ar kd TN Ls S' evT cdd k ah r0 ++ ciO K L W ar TN Ls S' cdd a0 ri.2 := by
      rw [ciS_snoc k ah r0 h46 hrk, ← hri, ← ea0]
    have hxO : (exO K L W ar kd TN Ls S' evT a0 ri.2).1 = 0 := by
      rw [← eSn]
      exact h0 (k + 1) (Nat.le_refl _)
    rw [eSn, eCn, ← List.append_assoc]
    have hTG := exO_g hW l1 l2 (by omega) hPk i2 hxO
    obtain ⟨C0, hC0⟩ : ∃ C0, C0 = ciH K L W ar TN S' cdd t ++ ciS K L W ar kd TN Ls S' evT cdd k ah r0 := ⟨_, rfl⟩
    rw [← hC0] at i3 ⊢
    have ha00 : 0 ≤ a0 := by omega
    have hLa := (hPR.1.1.2.2 a0 ha00 (by omega)).1
    have hLa1 := (hPR.1.1.2.2 (a0 + 1) (by omega) (by omega)).1
    have fu : ∀ (C : List Ins), nNd ar β0 β1 Z (wHr (b : Int) s) (hwd K L W Ls) (kHd K L Ls) s ((21 * m' + 1 + k) + 1) e C → nNd ar β0 β1 Z (wHr (b : Int) s) (hwd K L W Ls) (kHd K L Ls) s (21 * m' + 1 + (k + 1)) e C := fun C h => h
    rw [← p2] at i3
    unfold cPt at hcP
    by_cases h40 : K (a0 + 1) = 40
    · -- an assert
      rw [if_pos h40] at p4 hcP
      obtain ⟨h221, h229, -⟩ := p4
      obtain ⟨po5, po6⟩ := po2 h40
      have hLa2 := (hPR.1.1.2.2 (a0 + 2) (by omega) (by omega)).1
      have eXO : exO K L W ar kd TN Ls S' evT a0 ri.2 = exA K L W ar kd TN Ls S' a0 ri.2 := by
        unfold exO
        rw [if_pos h40]
      have eCO : ciO K L W ar TN Ls S' cdd a0 ri.2 = [(6, wdC K L W ar TN S'.1 S'.2.1 (a0 + 2), L a0, [], 0)] := by
        unfold ciO
        rw [if_pos h40]
      rw [eXO] at hxO hTG ⊢
      rw [eCO]
      have e2 := exA_2 hLa hLa2 hxO mvD_nn
      have hyT : ∃ yT : Nat, (s.2.1 229 eN).toInt = (yT : Int) ∧ wT G b (scX G fo) S s yT A := by
        rcases q5 with ⟨q, -⟩ | ⟨-, yT, w1, -, -, w2, -⟩ | ⟨q, -⟩
        · omega
        · exact ⟨yT, w1, w2⟩
        · omega
      obtain ⟨yT, y1, y2⟩ := hyT
      refine ⟨?_, hTG, fu _ ⟨by omega, Or.inr (Or.inr (Or.inr (Or.inl ⟨by rw [ex]; exact h221, C0, wdC K L W ar TN S'.1 S'.2.1 (a0 + 2), L a0, by rw [ex]; exact i3, ?_, rfl⟩)))⟩⟩
      · rw [e2]
        have hc1 := hcP.1
        rw [show e + 1 = (yT : Int) by omega] at hc1
        exact wT_en y2 hc1
      · rw [ex, h229]
        exact RSe_le hcP.1 hZ
    · rw [if_neg h40] at p4 hcP
      obtain ⟨h222, p4⟩ := p4
      by_cases hwm : K (a0 + 2) = 91 ∨ K (a0 + 2) = 40
      · -- a METHOD
        rw [if_pos hwm] at hcP
        have hO := (hPk.2.2 h40).2.2.1 hwm
        have hK1 := (hPk.2.2 h40).1
        obtain ⟨po5, po6⟩ := po4 h40 hwm
        have hmo : mO K L (a0 + 1) = (0, (mO K L (a0 + 1)).2) := by
          by_cases q : K (a0 + 2) = 91
          · rw [((hPk.2.2 h40).2.1 q).2.2]
          · unfold mO
            rw [show a0 + 1 + 1 = a0 + 2 by omega, if_neg q]
        obtain ⟨h221, yy1, kA⟩ : (s.2.1 221 eN).toInt = 4 ∧ ∃ yy1, eAr K L s (eC K L W ar kd TN Ls (4002 * (b : Int)) β0 β1 S' A0 A1 s m') 40 41 e yy1 y (mO K L (a0 + 1)).2 := by
          by_cases h91 : K (a0 + 2) = 91
          · rw [if_pos h91] at p4
            obtain ⟨w1, -, -, y1, -, -, h⟩ := p4
            exact ⟨w1, y1, h⟩
          · rw [if_neg h91, if_pos (hwm.resolve_left h91)] at p4
            obtain ⟨w1, -, -, h⟩ := p4
            refine ⟨w1, e + 1, ?_⟩
            have : (mO K L (a0 + 1)).2 = a0 + 2 := by
              unfold mO
              rw [show a0 + 1 + 1 = a0 + 2 by omega, if_neg h91]
            rw [this]
            exact h
        have hM : wM G H b n (scX G fo) S O s (wE G H b n (scX G fo) (tVX G fo) S O s m) hi eN A0' A := by
          rcases q5 with ⟨q, -⟩ | ⟨q, -⟩ | ⟨-, q⟩
          · omega
          · omega
          · exact q
        obtain ⟨zt, z1, z2⟩ := id hcP
        rw [ex] at z1
        obtain ⟨w1, w2, ⟨g, g1, g2, g3⟩, hm, m1, m2, mm, fT, hwl⟩ := me_en (A := A) (Ai := ri.2) (evT := evT) (y' := y) (A0 := A0) (A1 := A1) hPR hG hC hTn hFn hwd' hW hβ hSH i2 i1 h40 hwm ⟨by omega, by omega, hK1⟩ h222 (by rw [hx]; exact hcP) hLa1 hxO hM
        obtain ⟨η, Zs, hZ1, hZ2⟩ := exM_0 hPR h40 hwm hLa1 hxO
        obtain ⟨es, Cs, hes, hCs⟩ := ty_args (o := 40) (cc := 41) (a := (mO K L (a0 + 1)).2) (x0 := e) (NN := NM K L (a0 + 1)) ih (by omega) kA hO (by unfold NM; rw [← hmo]) (by rw [hevT] at hZ2; exact exP_each hZ1 hZ2) (by rw [ex]; exact hwl) (by omega) (by omega)
        rw [← hcd] at hCs
        have eCO : ciO K L W ar TN Ls S' cdd a0 ri.2 = ciP cdd (exU K L (mO K L (a0 + 1)).2 (NM K L (a0 + 1))) ++ [(5, ri.2, (NM K L (a0 + 1) : Int), (exY K L (a0 + 1)).map (fun y => wdC K L W ar TN S'.1 S'.2.1 y), W (a0 + 1))] := by
          unfold ciO
          rw [if_neg h40, if_pos hwm]
        have hzt : ∀ i, i < exN K L (a0 + 1) → 0 ≤ zt i ∧ (s.2.1 225 (zt i).toNat).toInt = if i + 1 < exN K L (a0 + 1) then zt (i + 1) else -1 := fun i hi => ⟨by have := (z2 i hi).1; omega, (z2 i hi).2.2⟩
        refine ⟨w1, hTG, fu _ ⟨by omega, Or.inr (Or.inr (Or.inr (Or.inr ⟨by rw [ex]; exact h221, C0, ri.2, (exY K L (a0 + 1)).map (fun y => wdC K L W ar TN S'.1 S'.2.1 y), (List.range (exN K L (a0 + 1))).map zt, es, Cs, (NM K L (a0 + 1) : Int), g, by rw [ex]; exact i3, by rw [ex]; exact w2, ⟨g1, by rw [ex]; exact g2⟩, ⟨?_, ?_, fun i yy Y hy hY => ?_⟩, ⟨hes.1, hes.2.1, fun i c B hc' hB => nNd_le (hes.2.2 i c B hc' hB) (by omega)⟩, ?_⟩)))⟩⟩
        · rw [List.range_eq_range', ex]
          exact nCh_of hzt _ 0 _ (by omega) z1
        · rw [List.length_map, List.length_map, List.length_range]
          unfold exY
          rw [List.length_map, List.length_range]
        · have hi' : i < exN K L (a0 + 1) := by
            have := (List.getElem?_eq_some_iff.mp hy).1
            rw [List.length_map, List.length_range] at this
            exact this
          rw [List.getElem?_map, List.getElem?_range hi'] at hy
          have hy : zt i = yy := Option.some.inj hy
          unfold exY at hY
          rw [List.getElem?_map, List.getElem?_map, List.getElem?_range hi'] at hY
          have hY : wdC K L W ar TN S'.1 S'.2.1 (uS (nxT K L) (a0 + 1 + 2) i) = Y := Option.some.inj hY
          rw [← hy, ← hY, show a0 + 1 + 2 = a0 + 3 by omega]
          exact RSe_le (z2 i hi').2.1.1 hZ
        · rw [eCO, hCs, ← g3]
      · -- a FIELD
        rw [if_neg hwm] at hcP
        have n91 : ¬ K (a0 + 2) = 91 := fun q => hwm (Or.inl q)
        have n40 : ¬ K (a0 + 2) = 40 := fun q => hwm (Or.inr q)
        rw [if_neg n91, if_neg n40] at p4
        obtain ⟨h221, -⟩ := p4
        rw [ex] at hcP
        have eXO : exO K L W ar kd TN Ls S' evT a0 ri.2 = exF K L W ar kd TN Ls a0 ri.2 := by
          unfold exO
          rw [if_neg h40, if_neg hwm]
        have eCO : ciO K L W ar TN Ls S' cdd a0 ri.2 = [(4, [], fIx (wEq W (a0 + 1)) 0 (fNm K L Ls (ri.2.headD 0)), [], 0)] := by
          unfold ciO
          rw [if_neg h40, if_neg hwm]
        rw [eXO] at hxO hTG ⊢
        rw [eCO]
        obtain ⟨f1, f2, f3⟩ := exF_2 hLa hLa1 hxO
        obtain ⟨xx, As, kk, w1, w2, w3, w4, w5, w6⟩ : ∃ (xx : Nat) (As : List (List Nat)) (kk : Nat), cutT A0' xx As ∧ xx / 8 < gT G ∧ ¬ gst G (xx / 8) = 0 ∧ (s.2.1 226 eN).toInt = (kk : Int) ∧ kk < gfd G (xx / 8) ∧ A = subs (envS (1000 + 6 * (xx / 8)) As 0 []) (gft G (xx / 8) kk) := by
          rcases q5 with ⟨-, q⟩ | ⟨q, -⟩ | ⟨q, -⟩
          · exact q
          · omega
          · omega
        refine ⟨?_, hTG, fu _ ⟨by omega, Or.inr (Or.inr (Or.inl ⟨by rw [ex]; exact h221, C0, fIx (wEq W (a0 + 1)) 0 (fNm K L Ls (ri.2.headD 0)), by rw [ex]; exact i3, rfl⟩))⟩⟩
        rw [f3]
        obtain ⟨Ai, hAi⟩ : ∃ Ai, Ai = ri.2 := ⟨_, rfl⟩
        rw [← hAi] at i1 i2 f1 f2 hcP ⊢
        obtain ⟨c, l, eA⟩ : ∃ c l, Ai = c :: l := by
          cases Ai with
          | nil => exact absurd rfl (isR_ne i2.1)
          | cons c l => exact ⟨c, l, rfl⟩
        have ehd : Ai.headD 0 = c := by
          rw [eA]
          rfl
        rw [ehd] at f1 f2 hcP ⊢
        have cl : ∀ x ∈ c :: l, 0 ≤ x := fun x hx => by
          rw [← eA] at hx
          exact (i2.2.2 x hx).1
        rw [i1, eA] at w1
        have hR : isR ar 1 (c :: l) := by
          rw [← eA]
          exact i2.1
        obtain ⟨x1, x2⟩ := cut_arG ha hγ hR cl w1
        obtain ⟨r1, r2, r3⟩ := rhE_nat (γ0 := β0) (γ1 := β1) ha hγ (cl c List.mem_cons_self)
        obtain ⟨⟨c0, cN⟩, flen, fall⟩ := fTy_pu hPR f1
        have hT24 := hG.1.2.2.2.2.2
        have erC : rhC β0 β1 c = c := by
          unfold rhC
          rw [if_pos (by omega)]
        have ex8 : ((xx / 8 : Nat) : Int) = c := by rw [x1, r2, erC]
        have flt := (fIx_lt (p := wEq W (a0 + 1)) (l := fNm K L Ls c)).2
        have ekk : (fIx (wEq W (a0 + 1)) 0 (fNm K L Ls c)).toNat = kk := by omega
        have hkl : kk < (fTy K L W ar TN Ls c).length := by omega
        obtain ⟨Zf, hZf⟩ : ∃ Zf, (fTy K L W ar TN Ls c)[kk]? = some Zf := ⟨_, List.getElem?_eq_getElem hkl⟩
        have hZd : (fTy K L W ar TN Ls c).getD kk [] = Zf := by
          rw [List.getD_eq_getElem?_getD, hZf]
          rfl
        have gg := pgA hC.1
        rw [hC.2.2.2.2.2.2.2.1] at gg
        have gT' := gg.1
        have hgf := gf_en (b := b) hC hFD (c := xx / 8) (k := kk) (Z := Zf) (by omega) (by rw [ex8]; exact f1) (by rw [ex8]; exact hZf) w5
        rw [ex8] at hgf
        obtain ⟨z1, z2, z3, z4⟩ := fall Zf (List.mem_of_getElem? hZf)
        have lA := (argT_g ha i2).1
        rw [eA] at lA
        have lA : ((argT ar (c :: l)).length : Int) = ar c := lA
        have a6 := (hG.2.1 c c0 cN).2.1.2
        have hs := subs_enG (γ0 := β0) (γ1 := β1) (b0 := 1000 + 6 * (xx / 8)) (b1 := 2000) (X := argT ar (c :: l)) (Y := []) ha (by unfold bOK; omega) (by omega) Zf (by rw [lA]; exact z3)
        rw [show ((1000 + 6 * (xx / 8) : Nat) : Int) = 1000 + 6 * c by omega, show ((2000 : Nat) : Int) = 2000 from rfl] at hs
        rw [ekk, hZd, w6, hgf, x2, envS_b1 (b1 := 0) (b2 := 2000), eA]
        exact hs
set_option maxHeartbeats 4000000 in
/-- every level -/
theorem TYL (hT : TWd K L W ar kd TN Ls nI lo' hi' own b n N T F H S0 G Ag s) (hS : TSc K L W ar kd TN Ls nI lo' hi' H G fo β0 β1 S') (hZ : A1 ≤ Z) : ∀ (m' : Nat), m' ≤ 10 → ∀ (m lo hi e : Nat) (A : List Nat) (x y t : Int), wE G H b n (scX G fo) (tVX G fo) S O s m lo hi e A → eC K L W ar kd TN Ls (4002 * (b : Int)) β0 β1 S' A0 A1 s m' x y t (e : Int) → (p_e K L m' false (0, t)).1 = 0 → (exE6 K L W ar kd TN Ls S' m' t).1 = 0 → 0 ≤ t → nxE K L t ≤ nI → nNd ar β0 β1 Z (wHr (b : Int) s) (hwd K L W Ls) (kHd K L Ls) s (21 * m') (e : Int) (ciE K L W ar kd TN Ls S' m' t)
  | 0, _, _, _, _, _, _, _, _, _, _, hC, _, _, _, _ => hC.elim
  | m' + 1, hm, m, lo, hi, e, A, x, y, t, hw, hC, hpe, hx6, ht0, htn => by
    cases m with
    | zero => exact hw.elim
    | succ m =>
    obtain ⟨p, hp, hw⟩ := hw
    obtain ⟨k, hk20, hPc⟩ := hC
    obtain ⟨ea, nd, yy, -, -, hch⟩ := ePc_ch k _ _ _ hPc
    obtain ⟨hHO, hps⟩ := pe_u (by omega) hpe
    have h46 : ∀ j, j < k → K (aIt K L j (aHd K L t)) = 46 := fun j hj => (hch j hj).1
    obtain ⟨hPO, hk2, -⟩ := pps_u (by omega) 20 _ hps k h46
    have hz := pps_z 20 _ hps
    rw [ea] at hz
    obtain ⟨evT, hevT⟩ : ∃ evT, evT = exE6 K L W ar kd TN Ls S' m' := ⟨_, rfl⟩
    obtain ⟨cdd, hcd⟩ : ∃ cdd, cdd = ciE K L W ar kd TN Ls S' m' := ⟨_, rfl⟩
    have eS : exE6 K L W ar kd TN Ls S' (m' + 1) t = exS K L W ar kd TN Ls S' evT k (aHd K L t) (exH K L W ar kd TN Ls S' evT t) := by
      rw [hevT]
      exact exS_stop k 20 _ _ hk2 h46 hz
    rw [eS] at hx6
    have hx0 : ∀ j, j ≤ k → (exS K L W ar kd TN Ls S' evT j (aHd K L t) (exH K L W ar kd TN Ls S' evT t)).1 = 0 := fun j hj => by
      by_cases q : (exS K L W ar kd TN Ls S' evT j (aHd K L t) (exH K L W ar kd TN Ls S' evT t)).1 = 0
      · exact q
      · rw [exS_fl j k _ _ hj q] at hx6
        exact hx6
    have eI : ciE K L W ar kd TN Ls S' (m' + 1) t = ciH K L W ar TN S' cdd t ++ ciS K L W ar kd TN Ls S' evT cdd k (aHd K L t) (exH K L W ar kd TN Ls S' evT t) := by
      have e1 : ciE K L W ar kd TN Ls S' (m' + 1) t = ciH K L W ar TN S' cdd t ++ ciS K L W ar kd TN Ls S' evT cdd 20 (aHd K L t) (exH K L W ar kd TN Ls S' evT t) := by rw [hcd, hevT]; rfl
      rw [e1, ciS_stop k 20 _ _ hk2 h46 hz]
    rw [eI, hevT, hcd]
    rw [hevT] at hx0
    have ih := TYL hT hS hZ m' (by omega) m
    exact nNd_le (ty_pts hT hS hZ (by omega) ih hHO ht0 k y _ _ p lo hi e A rfl hw hPc hPO hx0 (by rw [← ea]; exact htn)).2.2 (by omega)
end ZVYC
