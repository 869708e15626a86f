/-! ===== the class: tellAll, whole ===== -/
section WTB
variable {K L W ar kd : Int → Int} {TN : List Int} {P : Nat} {s s' : zS} {n lo hi m : Int} {Ls : List Int}
theorem bdF_0 {t : Int} (hX : TXp K L n) (hw : wTk K n (f_2 K L false (0, t)).2) (h0 : bdF K L W ar kd TN t = 0) : 0 ≤ fcd K L W TN t ∧ kd (fcd K L W TN t) = 1 ∧ ar (fcd K L W TN t) = ((fPa K L false (0, t)).length : Int) := by
  have hLt := hX.2.2 _ hw.1 hw.2.1
  unfold bdF at h0
  by_cases h1 : fcd K L W TN t < 0
  · rw [if_pos h1] at h0
    omega
  · rw [if_neg h1] at h0
    by_cases h2 : ¬ kd (fcd K L W TN t) = 1
    · rw [if_pos h2] at h0
      omega
    · rw [if_neg h2] at h0
      by_cases h3 : ¬ ar (fcd K L W TN t) = ((fPa K L false (0, t)).length : Int)
      · rw [if_pos h3] at h0
        omega
      · exact ⟨by omega, Decidable.not_not.mp h2, Decidable.not_not.mp h3⟩
theorem fn_wd (hC : dcC K L lo hi Ls) (hlo : 0 ≤ lo) (hhi : hi ≤ n) {i : Nat} {t : Int} (h1 : Ls[i]? = some t) (h6 : K t = 6) : wTk K n (f_2 K L false (0, t)).2 ∧ wTk K n (f_1 K L false (0, t)).2 ∧ wTk K n (f_5 K L false (0, t)).2 := by
  obtain ⟨d1, d2, -⟩ := dcC_at Ls i t lo hi hC h1
  have hfn := fn_fw (d2 h6).1
  have hd := (d2 h6).2
  obtain ⟨f1, f2, f3, f4, f5, f6, f7, f8, f9, f10⟩ := f7_fw hfn.1
  have a4 := hfn.2.2.2.1
  have a5 := hfn.2.2.2.2
  have hh := (hd_fw f8).2
  have h4 := f4_le hfn.1
  have f6' : (f_5 K L false (0, t)).2 = (f_4 K L false (0, t)).2 + 1 := by rw [f6]
  have f7' : (f_6 K L false (0, t)).2 = (f_4 K L false (0, t)).2 + 2 := by rw [f7]
  have f9' : (f_7 K L false (0, t)).2 = (p_hd K L (f_6 K L false (0, t))).2 + 2 := by rw [f9]
  have f2' : (f_1 K L false (0, t)).2 = t + 2 := by rw [f2]
  have f3' : (f_2 K L false (0, t)).2 = t + 3 := by rw [f3]
  have k1 : K (t + 2) = 1 := f10.1
  have k2 : K (t + 3) = 1 := f10.2.1
  have k3 : K ((f_4 K L false (0, t)).2 + 1) = 1 := f10.2.2
  rw [f2', f3', f6']
  exact ⟨⟨by omega, by omega, k2⟩, ⟨by omega, by omega, k1⟩, ⟨by omega, by omega, k3⟩⟩
theorem tyc_n {d c : Nat} : tyc s P (d : Int) (c : Int) = (s.2 (P + 24) (6 * d + c)).toInt := by
  unfold tyc
  rw [show 6 * (d : Int) + (c : Int) = ((6 * d + c : Nat) : Int) by omega, KI_n]
theorem fnc_n {d c : Nat} : fnc s P (d : Int) (c : Int) = (s.2 (P + 26) (10 * d + c)).toInt := by
  unfold fnc
  rw [show 10 * (d : Int) + (c : Int) = ((10 * d + c : Nat) : Int) by omega, KI_n]
theorem dcl_n {d c : Nat} : dcl s P (d : Int) (c : Int) = (s.2 (P + 32) (3 * d + c)).toInt := by
  unfold dcl
  rw [show 3 * (d : Int) + (c : Int) = ((3 * d + c : Nat) : Int) by omega, KI_n]
set_option maxHeartbeats 4000000 in
theorem zs_128 (hP : P = 3 ∨ P = 39) (hX : TXp K L n) (hD : DBz K L W ar kd n P s TN) (hR : RWz K L P s m Ls) (hA : ALz K L P s m Ls) (hC : dcC K L lo hi Ls) (hlo : 0 ≤ lo) (hhi : hi ≤ n) (hm : m ≤ 4000) (hTN : TN = (tyL K Ls).map (fun t => t + 1)) (hF60 : kFn K Ls ≤ 60) (h14 : (s.1 P 14).toInt = 0) (h10 : (s.1 P 10).toInt = 18738) : Zu 35 [(83, 1), (83, 2)] [(75, 0, P), (75, 1, P + 18), (75, 2, P + 22)] [(83, 2, P + 1), (83, 1, P), (75, 0, P), (75, 1, P + 18), (75, 2, P + 22)] 128 [.ref 83, .ref P] s (fun v s' => v = none ∧ TAq K L W ar kd TN P hi Ls s s') := by
  have hn4 := hX.1
  have hR' := hR
  obtain ⟨⟨z1, z2, z3, z4, z5⟩, w1, w2, w3, w4⟩ := hR'
  obtain ⟨hS, hS3⟩ := SLc_of w1
  have hnT : TN.length = kTy K Ls := by rw [hTN, List.length_map, tyL_len]
  have hT24 := hD.2.2.1.2.1
  have hLl : Ls.length ≤ 4000 := by
    have := kTF (K := K) Ls
    omega
  refine zc_128 (d := 26) hP ?_
  unfold v_128_0
  refine ⟨fun c2 u => TAf P s u ∧ ∃ i : Nat, c2.toInt = (i : Int) ∧ i ≤ Ls.length ∧ (¬ (u.1 P 14).toInt = 0 → ffs (alFs K L W ar kd TN (hfS K L Ls) 0 Ls) = (u.1 P 14).toInt) ∧ ((u.1 P 14).toInt = 0 → TA3 K L W ar kd TN P hi Ls i u ∧ ∀ (j : Nat) q, (aSl K L 0 (Ls.take i)).length ≤ j → (aSl K L 0 Ls)[j]? = some q → slc u P (j : Int) 3 = -1), fun c2 _ => (4000 - c2.toInt).toNat, ⟨TAf_rf, 0, by decide, Nat.zero_le _, fun h0 => absurd h14 h0, fun _ => ⟨⟨rfl, ⟨lo, hlo, by omega, by omega, ?_⟩, fun i q x hi0 => absurd hi0 (Nat.not_lt_zero _), fun f hf => absurd hf (Nat.not_lt_zero _), fun d d1 d2 => ?_⟩, fun j q _ hq => hS3 j q hq⟩⟩, ?_⟩
  · rw [List.take_zero]
    show srtQ K L lo hi ((aSl K L 0 Ls).drop 0)
    rw [List.drop_zero]
    exact srt_al Ls lo hi 0 hC
  · obtain ⟨d', rfl⟩ : ∃ d' : Nat, d = (d' : Int) := ⟨d.toNat, by omega⟩
    have hd : d' < (tyL K Ls).length := by rw [tyL_len]; omega
    obtain ⟨i, i1, i2, i3⟩ := tyL_inv Ls d' _ (List.getElem?_eq_getElem hd)
    have := ((hA i _ i1).2 i2).2.2.1.2.2.2.2.2
    rw [← i3] at this
    show tyc s P (d' : Int) ((5 : Nat) : Int) = -1
    rw [tyc_n]
    exact this
  rintro c2 u ⟨gf, i, g1, g2, g3, g4⟩
  unfold v_128_7
  have hcn : (u.1 (P + 32) 2 / 3).toInt = (Ls.length : Int) := by
    rw [i_dv (x := u.1 (P + 32) 2) (y := 3) rfl (show (3 : Int32).toInt = 3 by decide) (by decide) (by
      rw [gf.1 (P + 32) 2 (fun e => by omega) (fun e => by omega)]
      unfold zsz at z5
      omega), gf.1 (P + 32) 2 (fun e => by omega) (fun e => by omega)]
    unfold zsz at z5
    omega
  rw [hcn]
  refine ⟨fun y0 => ?_, fun y0 => ⟨fun y1 => ?_, fun y1 => ?_⟩⟩
  · unfold v_128_56
    have hi1 : i = Ls.length := by omega
    refine ⟨rfl, gf, ?_, fun h0 => by rw [← hi1]; exact (g4 h0).1⟩
    by_cases h0 : (u.1 P 14).toInt = 0
    · have := (g4 h0).1.1
      rw [hi1, List.take_length] at this
      rw [h0, this]
    · exact (g3 h0).symm
  · unfold v_128_56
    exact ⟨rfl, gf, (g3 y1).symm, fun h0 => absurd h0 y1⟩
  · have hil : i < Ls.length := by omega
    obtain ⟨t, h1⟩ : ∃ t, Ls[i]? = some t := ⟨_, List.getElem?_eq_getElem hil⟩
    obtain ⟨⟨ta1, ta2, ta3, ta4⟩, tm⟩ := g4 y1
    obtain ⟨aF, aT⟩ := hA i t h1
    obtain ⟨kl1, kl2, kl3⟩ := k_lt (K := K) (L := L) Ls i t h1
    obtain ⟨dc1, dc2, dc3⟩ := dcC_at Ls i t lo hi hC h1
    have hcell : ∀ (cc : Int32) (c : Nat), cc.toInt = (c : Int) → c < 3 → (zg u (P + 32) (c2 * 3 + cc)).toInt = (s.2 (P + 32) (3 * i + c)).toInt := fun cc c hcc hc3 => by
      rw [zg_dc (s := u) (P := P) (a1 := c2) (c := cc) (k := (c : Int)) hcc (by omega) (by omega), g1]
      unfold dcl
      rw [TAf_r gf (by decide) (by decide) (by decide) (by decide) (by decide)]
      exact dcl_n
    have hJlen : ((aSl K L 0 (Ls.take i)).length : Int) ≤ 4000 := by
      have hh : ∀ (l : List Int) (k : Nat) (h : Int), (aSl K L h (l.take k)).length ≤ (aSl K L h l).length := by
        intro l
        induction l with
        | nil =>
          intro k h
          rw [List.take_nil]
          exact Nat.le_refl _
        | cons a l ih =>
          intro k h
          cases k with
          | zero => exact Nat.zero_le _
          | succ k =>
            rw [List.take_succ_cons, aSl_cons, aSl_cons, List.length_append, List.length_append]
            have := ih k (h + ((dHd K L a).length : Int))
            omega
      have := hh Ls i 0
      omega
    have r7 : ∀ (x : Int32) (u' : zS), x.toInt = (i : Int) + 1 → TAf P s u' → (¬ (u'.1 P 14).toInt = 0 → ffs (alFs K L W ar kd TN (hfS K L Ls) 0 Ls) = (u'.1 P 14).toInt) → ((u'.1 P 14).toInt = 0 → TA3 K L W ar kd TN P hi Ls (i + 1) u' ∧ ∀ (j : Nat) q, (aSl K L 0 (Ls.take (i + 1))).length ≤ j → (aSl K L 0 Ls)[j]? = some q → slc u' P (j : Int) 3 = -1) → ((TAf P s u' ∧ ∃ i : Nat, x.toInt = (i : Int) ∧ i ≤ Ls.length ∧ (¬ (u'.1 P 14).toInt = 0 → ffs (alFs K L W ar kd TN (hfS K L Ls) 0 Ls) = (u'.1 P 14).toInt) ∧ ((u'.1 P 14).toInt = 0 → TA3 K L W ar kd TN P hi Ls i u' ∧ ∀ (j : Nat) q, (aSl K L 0 (Ls.take i)).length ≤ j → (aSl K L 0 Ls)[j]? = some q → slc u' P (j : Int) 3 = -1)) ∧ (4000 - x.toInt).toNat < (4000 - c2.toInt).toNat) := fun x u' hx a1 a2 a3 => ⟨⟨a1, i + 1, by omega, by omega, a2, a3⟩, by
      omega⟩
    by_cases h6 : K t = 6
    · -- a func
      obtain ⟨b1, b2, b3, b4, b5⟩ := aF h6
      rw [if_pos h6] at kl1 kl2 kl3
      have hfn := fn_fw (dc2 h6).1
      obtain ⟨wd1, wd2, wd3⟩ := fn_wd hC hlo hhi h1 h6
      have hwhat := (hcell 0 0 (by decide) (by decide)).trans b3.1
      rw [hwhat]
      refine ⟨fun y2 => by omega, fun y2 x2 hx2 => ?_⟩
      have ex2 := hx2 (by omega)
      have e2 : x2.toInt = ((kFn K (Ls.take i) : Nat) : Int) := by omega
      have q0 : fnc u P ((kFn K (Ls.take i) : Nat) : Int) 0 = (f_2 K L false (0, t)).2 := by
        rw [TAf_fn gf (by omega) (by decide) (by decide) (by decide)]
        exact (fnc_n (c := 0)).trans b2.1
      have q4 : fnc u P ((kFn K (Ls.take i) : Nat) : Int) 4 = ((fPa K L false (0, t)).length : Int) := by
        rw [TAf_fn gf (by omega) (by decide) (by decide) (by decide)]
        exact (fnc_n (c := 4)).trans b2.2.2.2.2.1
      have q3 : fnc s P ((kFn K (Ls.take i) : Nat) : Int) 3 = ((aSl K L 0 (Ls.take i)).length : Int) + 1 := (fnc_n (c := 3)).trans b2.2.2.2.1
      have hcf : cfO K L W TN Ls (kFn K (Ls.take i)) = fcd K L W TN t := by
        unfold cfO
        rw [fnL_at Ls i t h1 h6]
      refine Zt_bd (fun hB => ?_)
      refine Zt.imp (Zt.mo (d := 12) (by omega) (zs_129 (t := t) (W := W) (ar := ar) (kd := kd) (TN := TN) hP hX e2 (by omega) q0 q4 wd1 y1 (DBz_f hP gf hD) hB)) ?_
      rintro v3 s4 ⟨rfl, p1, p2, p3, p4, p5⟩
      refine ⟨rfl, ?_⟩
      unfold v_128_29
      refine Zt.imp (Zt.mo (d := 10) (by omega) (zs_130 (d := 0) hP (by rw [hwhat]; omega))) ?_
      rintro v1 s5 ⟨rfl, r1, r2, r3, r4⟩
      refine ⟨rfl, ?_⟩
      have f45 : TAf P s4 s5 := ⟨fun b q _ hbq => r2 b q hbq, fun r _ _ _ _ _ => by rw [r1], fun _ _ => by rw [r1], fun _ _ => by rw [r1], fun _ _ _ => by rw [r1], fun _ _ => by rw [r1]⟩
      have F5 := TAf_tr (TAf_tr gf p2) f45
      have e14 : (s5.1 P 14).toInt = bdF K L W ar kd TN t := by
        rw [r2 P 14 (fun e => by omega)]
        exact p1
      have ex4 : (zg s5 (P + 32) (c2 * 3 + 1)).toInt = ((aSl K L 0 (Ls.take i)).length : Int) := by
        have : s5.2 (P + 32) = u.2 (P + 32) := by rw [r1, p4 _ (by omega) (by omega)]
        have e3 := hcell 1 1 (by decide) (by decide)
        rw [zg_K] at e3 ⊢
        rw [this, e3]
        exact b3.2.1
      refine tall_in hP hX hD hR hA hC hlo hhi hm hLl h1 g1 ex4 F5 [bdF K L W ar kd TN t] ?_ ?_ ta1 (fun h0 => ?_) r7
      · unfold dFs
        rw [if_pos h6]
      · rw [e14]
        show bdF K L W ar kd TN t = if bdF K L W ar kd TN t = 0 then 0 else bdF K L W ar kd TN t
        by_cases hb : bdF K L W ar kd TN t = 0
        · rw [if_pos hb]
          exact hb
        · rw [if_neg hb]
      · have hb0 : bdF K L W ar kd TN t = 0 := by
          have h0' : (if bdF K L W ar kd TN t = 0 then (0 : Int) else bdF K L W ar kd TN t) = 0 := h0
          by_cases hb : bdF K L W ar kd TN t = 0
          · exact hb
          · rw [if_neg hb] at h0'
            exact h0'
        obtain ⟨o1, o2⟩ := p5 hb0
        obtain ⟨v1', v2', v3'⟩ := bdF_0 hX wd1 hb0
        obtain ⟨r41, r42⟩ := r4 (by rw [hwhat]; omega)
        rw [hwhat, show -1 - (-1 - ((kFn K (Ls.take i) : Nat) : Int)) = ((kFn K (Ls.take i) : Nat) : Int) by omega] at r41 r42
        rw [(o1 _ (by omega)).1, if_pos rfl] at r41
        have q3' : fnc s4 P ((kFn K (Ls.take i) : Nat) : Int) 3 = ((aSl K L 0 (Ls.take i)).length : Int) + 1 := by
          rw [TAf_fn (TAf_tr gf p2) (by omega) (by decide) (by decide) (by decide)]
          exact q3
        rw [q3'] at r42
        have hJ1 : ((aSl K L 0 (Ls.take i)).length : Int) + 1 ≤ 4000 := by
          have hx0 : (sDc K L (kHd K L (Ls.take i) : Int) t)[0]? = some ((f_1 K L false (0, t)).2, 3, -1, (kHd K L (Ls.take i) : Int)) := by
            unfold sDc fSlt
            rw [if_pos h6]
            rfl
          have hx3 := aSl_at (K := K) (L := L) Ls i 0 0 t _ h1 (by rw [show (0 : Int) + (kHd K L (Ls.take i) : Int) = (kHd K L (Ls.take i) : Int) by omega]; exact hx0)
          have := (List.getElem?_eq_some_iff.mp hx3).1
          omega
        have hsame18 : s5.2 (P + 18) = u.2 (P + 18) := by rw [r1, p4 _ (by omega) (by omega)]
        have hsame20 : s5.2 (P + 20) = u.2 (P + 20) := by rw [r1, p4 _ (by omega) (by omega)]
        have hsame30 : s5.2 (P + 30) = u.2 (P + 30) := by rw [r1, p4 _ (by omega) (by omega)]
        have e10 : s5.1 P 10 = u.1 P 10 := by rw [r2 P 10 (fun e => by omega), p3 P 10 (fun e => by omega)]
        have hsl : ∀ j c, slc s5 P j c = slc u P j c := fun j c => by
          unfold slc
          rw [hsame30]
        refine ⟨⟨?_, ?_, fun _ => by omega, fun k x hx => ?_⟩, by rw [e10]; exact ta2, ?_, ?_, fun j q hj hq => by rw [hsl]; exact tm j q hj hq⟩
        · rw [TAf_r F5 (by decide) (by decide) (by decide) (by decide) (by decide), hD.1.2.2.2, r41]
          unfold dTp
          rw [if_pos h6]
          exact v3'
        · unfold dTp
          rw [if_pos h6]
          exact pa_len hfn.1
        · unfold dTp at hx
          rw [if_pos h6] at hx
          have hx2 : (sDc K L (kHd K L (Ls.take i) : Int) t)[1 + k]? = some (x, 1, -1, (kHd K L (Ls.take i) : Int)) := by
            unfold sDc fSlt prS
            have hk := (List.getElem?_eq_some_iff.mp hx).1
            rw [if_pos h6, show 1 + k = k + 1 by omega, List.getElem?_cons_succ, List.getElem?_append_left (by rw [List.length_map]; omega), List.getElem?_map, hx]
            rfl
          have hx3 := aSl_at (K := K) (L := L) Ls i (1 + k) 0 t _ h1 (by rw [show (0 : Int) + (kHd K L (Ls.take i) : Int) = (kHd K L (Ls.take i) : Int) by omega]; exact hx2)
          rw [r42, show ((aSl K L 0 (Ls.take i)).length : Int) + 1 + (k : Int) = (((aSl K L 0 (Ls.take i)).length + (1 + k) : Nat) : Int) by omega]
          exact (SLc_f F5 hS _ _ hx3).1
        · rw [e10]
          exact SWz_f ta3 (Int.le_refl _) (fun j _ => by rw [hsame18]) (fun j _ => by rw [hsame20]) (fun j _ => hsl _ _)
        · have ekF : kFn K (Ls.take (i + 1)) = kFn K (Ls.take i) + 1 := by rw [take_s h1, kFn_app, if_pos h6]
          rw [ekF]
          have hf45 : ∀ j c, fnc s5 P j c = fnc s4 P j c := fun j c => by
            unfold fnc
            rw [r1]
          have ht45 : ∀ j c, tyc s5 P j c = tyc s4 P j c := fun j c => by
            unfold tyc
            rw [r1]
          refine ⟨fun f hf => ?_, fun d d1 d2 => ?_⟩
          · rw [hf45, hf45, (o1 f (by omega)).1, (o1 f (by omega)).2]
            by_cases ef : f = kFn K (Ls.take i)
            · rw [if_pos (by omega), if_pos (by omega), ef, hcf]
              exact ⟨rfl, ta4.2 _ v1' (by
                have := fIx_lt (p := wEq W (f_2 K L false (0, t)).2) (l := TN)
                exact this.2)⟩
            · rw [if_neg (by omega), if_neg (by omega)]
              exact ta4.1 f (by omega)
          · rw [ht45, o2 d d1]
            show _ = if cfO K L W TN Ls (kFn K (Ls.take i)) = d then ((kFn K (Ls.take i) : Nat) : Int) else lFn _ d (kFn K (Ls.take i))
            rw [hcf]
            by_cases ed : d = fcd K L W TN t
            · rw [if_pos ed, if_pos ed.symm]
            · rw [if_neg ed, if_neg (fun e => ed e.symm)]
              exact ta4.2 d d1 d2
    · -- a type
      obtain ⟨b1, b2, b3, b4⟩ := aT h6
      rw [if_neg h6] at kl1 kl2 kl3
      have hwhat := (hcell 0 0 (by decide) (by decide)).trans b4.1
      rw [hwhat]
      refine ⟨fun y2 => ?_, fun y2 => by omega⟩
      unfold v_128_29
      refine Zt.imp (Zt.mo (d := 10) (by omega) (zs_130 (d := 0) hP (by rw [hwhat]; omega))) ?_
      rintro v1 s5 ⟨rfl, r1, r2, r3, r4⟩
      refine ⟨rfl, ?_⟩
      have f45 : TAf P u s5 := ⟨fun b q _ hbq => r2 b q hbq, fun r _ _ _ _ _ => by rw [r1], fun _ _ => by rw [r1], fun _ _ => by rw [r1], fun _ _ _ => by rw [r1], fun _ _ => by rw [r1]⟩
      have F5 := TAf_tr gf f45
      have e14 : (s5.1 P 14).toInt = 0 := by
        rw [r2 P 14 (fun e => by omega)]
        exact y1
      have ex4 : (zg s5 (P + 32) (c2 * 3 + 1)).toInt = ((aSl K L 0 (Ls.take i)).length : Int) := by
        have e3 := hcell 1 1 (by decide) (by decide)
        rw [zg_K] at e3 ⊢
        rw [r1, e3]
        exact b4.2.1
      refine tall_in hP hX hD hR hA hC hlo hhi hm hLl h1 g1 ex4 F5 [] ?_ (by rw [e14]; rfl) ta1 (fun _ => ?_) r7
      · unfold dFs
        rw [if_neg h6]
      · obtain ⟨r31, r32⟩ := r3 (by rw [hwhat]; omega)
        rw [hwhat] at r31 r32
        have q2 : tyc u P ((kTy K (Ls.take i) : Nat) : Int) 2 = ((aSl K L 0 (Ls.take i)).length : Int) := by
          rw [TAf_ty gf (by omega) (by decide)]
          exact (tyc_n (c := 2)).trans b3.2.2.1
        rw [q2] at r32
        have e10 : s5.1 P 10 = u.1 P 10 := r2 P 10 (fun e => by omega)
        have hsl : ∀ j c, slc s5 P j c = slc u P j c := fun j c => by
          unfold slc
          rw [r1]
        refine ⟨⟨?_, ?_, fun _ => by omega, fun k x hx => ?_⟩, by rw [e10]; exact ta2, ?_, ?_, fun j q hj hq => by rw [hsl]; exact tm j q hj hq⟩
        · rw [TAf_r F5 (by decide) (by decide) (by decide) (by decide) (by decide), r31, KI_n, b2]
          unfold dTp
          rw [if_neg h6]
        · unfold dTp
          rw [if_neg h6]
          exact fo_len (ty_fw (dc3 h6).1).1
        · unfold dTp at hx
          rw [if_neg h6] at hx
          have hx2 : (sDc K L (kHd K L (Ls.take i) : Int) t)[k]? = some (x, 0, x + 1, -1) := by
            unfold sDc tSlt nmS
            have hk := (List.getElem?_eq_some_iff.mp hx).1
            rw [if_neg h6, List.getElem?_append_left (by rw [List.length_map]; omega), List.getElem?_map, hx]
            rfl
          have hx3 := aSl_at (K := K) (L := L) Ls i k 0 t _ h1 (by rw [show (0 : Int) + (kHd K L (Ls.take i) : Int) = (kHd K L (Ls.take i) : Int) by omega]; exact hx2)
          rw [r32, show ((aSl K L 0 (Ls.take i)).length : Int) + (k : Int) = (((aSl K L 0 (Ls.take i)).length + k : Nat) : Int) by omega]
          exact (SLc_f F5 hS _ _ hx3).1
        · rw [e10]
          exact SWz_f ta3 (Int.le_refl _) (fun j _ => by rw [r1]) (fun j _ => by rw [r1]) (fun j _ => hsl _ _)
        · have ekF : kFn K (Ls.take (i + 1)) = kFn K (Ls.take i) := by rw [take_s h1, kFn_app, if_neg h6, Nat.add_zero]
          rw [ekF]
          unfold FNi fnc tyc at *
          rw [r1]
          exact ta4
end WTB
