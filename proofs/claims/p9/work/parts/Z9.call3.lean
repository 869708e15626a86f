/-! ===== the class: lookAtAll over the declarations ===== -/
section Z9C
variable {K L W ar kd : Int → Int} {n lo hi k0 T : Int} {TN Ls : List Int} {P d : Nat} {s u : zS} {mv : List Int → List Int → List Int → Int}
theorem zs_134x (hP : P = 3 ∨ P = 39) (hf : ¬ (s.1 P 14).toInt = 0) : Zu (d + 9) [(83, 1), (83, 2)] [(75, 0, P), (75, 1, P + 18), (75, 2, P + 22)] [(83, 2, P + 1), (83, 1, P), (75, 0, P), (75, 1, P + 18), (75, 2, P + 22)] 134 [.ref 83, .ref P] s (fun v s' => v = none ∧ s' = s) := by
  refine zc_134 hP ?_
  unfold v_134_0
  refine ⟨fun _ w => w = s, fun _ _ => 0, rfl, ?_⟩
  rintro c2 w rfl
  unfold v_134_7
  exact ⟨fun _ => ⟨rfl, rfl⟩, fun _ => ⟨fun _ => ⟨rfl, rfl⟩, fun z => absurd z hf⟩⟩
set_option maxHeartbeats 4000000 in
theorem zs_134 (hP : P = 3 ∨ P = 39) (h : PRm K L W ar kd n lo hi TN Ls) (C : CSz K L W ar kd TN Ls n k0 P u) (hT : (u.1 75 3).toInt = T) (hT2 : 18 ≤ T ∧ T + 180 ≤ 18738) (hf : (u.1 P 14).toInt = 0) (hmv : mv = mtV ar kd (rso kd (cfO K L W TN Ls) (fsd K L Ls) (kFn K Ls) (tmd K L Ls) (tnd K L Ls) (hwd K L W Ls)) (hwd K L W Ls) (hdd K L W ar TN Ls) (tmd K L Ls) (tnd K L Ls)) : Zu 13 [(83, 1), (83, 2)] [(75, 0, P), (75, 1, P + 18), (75, 2, P + 22)] [(83, 2, P + 1), (83, 1, P), (75, 0, P), (75, 1, P + 18), (75, 2, P + 22)] 134 [.ref 83, .ref P] u (fun v s' => v = none ∧ RFz P T u s' ∧ (∀ b q, ¬ (b = P ∧ q = 14) → ¬ (b = 75 ∧ (q = 4 ∨ q = 5 ∨ q = 6)) → s'.1 b q = u.1 b q) ∧ (s'.1 P 14).toInt = ffs (dLs K L W ar mv TN Ls).flatten) := by
  have hL84 : Ls.length ≤ 84 := by
    have := kTF (K := K) Ls
    have := h.2.2.1
    omega
  have hfl : (dLs K L W ar mv TN Ls).flatMap (fun x => x) = (dLs K L W ar mv TN Ls).flatten := List.flatMap_id'
  have hP75 : ¬ P = 75 := by omega
  refine zc_134 (d := 4) hP ?_
  unfold v_134_0
  obtain ⟨I, hI⟩ : ∃ I : Int32 → zS → Prop, I = fun c2 w => RFz P T u w ∧ (∀ b q, ¬ (b = P ∧ q = 14) → ¬ (b = 75 ∧ (q = 4 ∨ q = 5 ∨ q = 6)) → w.1 b q = u.1 b q) ∧ ∃ i : Nat, i ≤ Ls.length ∧ c2.toInt = (i : Int) ∧ (w.1 P 14).toInt = fG (fun x => x) [] (dLs K L W ar mv TN Ls) i := ⟨_, rfl⟩
  refine ⟨I, fun c2 _ => (4000 - c2.toInt).toNat, by rw [hI]; exact ⟨⟨fun _ _ _ _ _ => rfl, fun _ _ => rfl⟩, fun _ _ _ _ => rfl, 0, Nat.zero_le _, by decide, by rw [fG_0, hf]; rfl⟩, ?_⟩
  intro c2 w hw
  rw [hI] at hw
  obtain ⟨g1, g2, i, g3, g4, g5⟩ := hw
  have fz : ∀ b : Nat, w.1 b 2 = u.1 b 2 := fun b => g2 b 2 (fun z => absurd z.2 (by decide)) (fun z => by omega)
  have Cw := CSz_rf hP hT2.1 g1 fz C
  have hcn : (w.1 (P + 32) 2 / 3).toInt = (Ls.length : Int) := cn_dc Cw.2.2.2.2.2.2.1.2.2 (by omega)
  unfold v_134_7
  rw [hcn]
  have ex : (w.1 P 14).toInt = fG (fun x => x) [] (dLs K L W ar mv TN Ls) Ls.length → v_134_67 (fun j => Zt (4 + 8) (wd P j) j) P c2 w (fun v s' => v = none ∧ RFz P T u s' ∧ (∀ b q, ¬ (b = P ∧ q = 14) → ¬ (b = 75 ∧ (q = 4 ∨ q = 5 ∨ q = 6)) → s'.1 b q = u.1 b q) ∧ (s'.1 P 14).toInt = ffs (dLs K L W ar mv TN Ls).flatten) := fun e => by
    rw [fG_l (by rw [dLs_len]; exact Nat.le_refl _), hfl, List.nil_append] at e
    exact ⟨rfl, g1, g2, e⟩
  refine ⟨fun y => ex ?_, fun y => ⟨fun y1 => ex ?_, fun y1 => ?_⟩⟩
  · rw [show Ls.length = i by omega]
    exact g5
  · rw [g5] at y1
    exact g5.trans (fG_m (by omega) y1).symm
  have hi : i < Ls.length := by omega
  obtain ⟨t, h1⟩ : ∃ t, Ls[i]? = some t := ⟨_, List.getElem?_eq_getElem hi⟩
  have hdl := dLs_at (W := W) (ar := ar) (mv := mv) (TN := TN) (K := K) (L := L) h1
  obtain ⟨k1, hk1⟩ : ∃ k1, k1 = (aSl K L 0 (Ls.take i)).length := ⟨_, rfl⟩
  obtain ⟨S, hS⟩ : ∃ S, S = sDc K L (kHd K L (Ls.take i) : Int) t := ⟨_, rfl⟩
  obtain ⟨f, hfd⟩ : ∃ f, f = slL K L W ar mv TN Ls (dTp K L t) (dOw K L W TN (kTy K (Ls.take i)) t) := ⟨_, rfl⟩
  have hdc : dcL K L W ar mv TN Ls i t = S.flatMap f := by rw [hS, hfd]; rfl
  obtain ⟨cF, cT⟩ := (Cw.2.2.2.2.2.1 i t h1).1
  have hdcl : (dcl w P (i : Int) 1 = (k1 : Int) ∧ dcl w P (i : Int) 2 = (k1 : Int) + (S.length : Int)) := by
    rw [hk1, hS]
    by_cases h6 : K t = 6
    · exact (cF h6).1.2
    · exact (cT h6).1.2
  have hlen4 := Cw.2.2.2.2.2.2.2.1
  have hSl : k1 + S.length ≤ 4000 ∨ S = [] := by
    rcases Nat.eq_zero_or_pos S.length with z | z
    · exact Or.inr (List.length_eq_zero_iff.mp z)
    · have hv := List.getElem?_eq_getElem (show S.length - 1 < S.length by omega)
      have := (cz_sl Cw h1 (by rw [← hS]; exact hv)).1.1
      exact Or.inl (by omega)
  have hk4 : k1 ≤ 4000 := by
    have e4 : Ls.take i ++ Ls.drop i = Ls := List.take_append_drop i Ls
    have key : ∀ (l l' : List Int) (g : Int), (aSl K L g l).length ≤ (aSl K L g (l ++ l')).length := fun l l' => by
      induction l with
      | nil => exact fun g => Nat.zero_le _
      | cons a l ih =>
        intro g
        rw [List.cons_append, aSl_cons, aSl_cons, List.length_append, List.length_append]
        have := ih (g + ((dHd K L a).length : Int))
        omega
    have := key (Ls.take i) (Ls.drop i) 0
    rw [e4] at this
    omega
  have z0 : (0 : Int32).toInt = 0 := by decide
  have v0 : (zg w (P + 32) (c2 * 3 + 0)).toInt = dcl w P (i : Int) 0 := by
    rw [zg_dc z0 (by decide) (by omega), g4]
  have hd0 : -100 ≤ dcl w P (i : Int) 0 ∧ dcl w P (i : Int) 0 ≤ 100 ∧ (0 ≤ dcl w P (i : Int) 0 → dcl w P (i : Int) 0 = dOw K L W TN (kTy K (Ls.take i)) t) ∧ (dcl w P (i : Int) 0 < 0 → fnc w P (-1 - dcl w P (i : Int) 0) 2 = dOw K L W TN (kTy K (Ls.take i)) t) := by
    have h24 := h.2.2.1
    unfold dOw
    by_cases h6 : K t = 6
    · have e1 := (cF h6).1.1
      have hl := kFn_lt h1 h6
      rw [e1, if_pos h6]
      refine ⟨by omega, by omega, fun z => by omega, fun _ => ?_⟩
      rw [show -1 - (-1 - (kFn K (Ls.take i) : Int)) = (kFn K (Ls.take i) : Int) by omega, (Cw.2.2.1.1 _ hl).1]
      exact (tb_fn (L := L) (W := W) (TN := TN) h1 h6).2
    · have e1 := (cT h6).1.1
      have hl := kTy_lt h1 h6
      rw [e1, if_neg h6]
      exact ⟨by omega, by omega, fun _ => rfl, fun z => by omega⟩
  refine Zt.imp (Zt.mo (d := 10) (by omega) (zs_130 (d := 0) hP (by rw [v0]; omega))) ?_
  rintro v2 s3 ⟨rfl, e1, e2, e3, e4⟩
  rw [v0] at e3 e4
  have e75 : (s3.1 75 4).toInt = dOw K L W TN (kTy K (Ls.take i)) t := by
    rcases Int.lt_or_le (dcl w P (i : Int) 0) 0 with z | z
    · rw [(e4 z).1]
      exact hd0.2.2.2 z
    · rw [(e3 z).1]
      exact hd0.2.2.1 z
  refine ⟨rfl, ?_⟩
  have R3 : RFz P T u s3 := ⟨fun r a b c d => by rw [e1]; exact g1.1 r a b c d, fun j hj => by rw [e1]; exact g1.2 j hj⟩
  have F3 : ∀ b q, ¬ (b = P ∧ q = 14) → ¬ (b = 75 ∧ (q = 4 ∨ q = 5 ∨ q = 6)) → s3.1 b q = u.1 b q := fun b q z1 z2 => by rw [e2 b q z2]; exact g2 b q z1 z2
  have nxt : ∀ (d3 : Int32) (v : zS), RFz P T u v → (∀ b q, ¬ (b = P ∧ q = 14) → ¬ (b = 75 ∧ (q = 4 ∨ q = 5 ∨ q = 6)) → v.1 b q = u.1 b q) → (v.1 P 14).toInt = ffs (S.flatMap f) → v_134_65 (fun j => Zt (4 + 8) (wd P j) j) P (fun c2' w' => I c2' w' ∧ (4000 - c2'.toInt).toNat < (4000 - c2.toInt).toNat) c2 d3 v (fun v s' => v = none ∧ RFz P T u s' ∧ (∀ b q, ¬ (b = P ∧ q = 14) → ¬ (b = 75 ∧ (q = 4 ∨ q = 5 ∨ q = 6)) → s'.1 b q = u.1 b q) ∧ (s'.1 P 14).toInt = ffs (dLs K L W ar mv TN Ls).flatten) := by
    intro d3 v r1 r2 r3
    unfold v_134_65
    intro x1 hx1
    have ex1 := hx1 (by omega)
    rw [hI]
    refine ⟨⟨r1, r2, i + 1, by omega, by omega, ?_⟩, by omega⟩
    rw [r3, fG_s hdl (by rw [← g5]; exact y1), hdc]
  refine ⟨fun d2 d3 v => d2 = c2 ∧ RFz P T u v ∧ (∀ b q, ¬ (b = P ∧ q = 14) → ¬ (b = 75 ∧ (q = 4 ∨ q = 5 ∨ q = 6)) → v.1 b q = u.1 b q) ∧ (v.1 75 4).toInt = dOw K L W TN (kTy K (Ls.take i)) t ∧ ∃ j : Nat, j ≤ S.length ∧ d3.toInt = (k1 : Int) + (j : Int) ∧ (v.1 P 14).toInt = fG f [] S j, fun _ d3 _ => (100000 - d3.toInt).toNat, ⟨rfl, R3, F3, e75, 0, Nat.zero_le _, ?_, ?_⟩, ?_⟩
  · have o1 : (1 : Int32).toInt = 1 := by decide
    rw [zg_dc o1 (by decide) (by omega)]
    unfold dcl
    rw [e1, g4]
    have := hdcl.1
    unfold dcl at this
    rw [this]
    omega
  · rw [fG_0, e2 P 14 (fun z => hP75 z.1), y1]
    rfl
  rintro d2 d3 v ⟨rfl, r1, r2, r3, j, j1, j2, j3⟩
  have fv : ∀ b : Nat, v.1 b 2 = u.1 b 2 := fun b => r2 b 2 (fun z => absurd z.2 (by decide)) (fun z => by omega)
  have Cv := CSz_rf hP hT2.1 r1 fv C
  have o2 : (2 : Int32).toInt = 2 := by decide
  have hto : (zg v (P + 32) (d2 * 3 + 2)).toInt = (k1 : Int) + (S.length : Int) := by
    rw [zg_dc o2 (by decide) (by omega), g4]
    obtain ⟨cF', cT'⟩ := (Cv.2.2.2.2.2.1 i t h1).1
    rw [hk1, hS]
    by_cases h6 : K t = 6
    · exact (cF' h6).1.2.2
    · exact (cT' h6).1.2.2
  unfold v_134_29
  rw [hto]
  refine ⟨fun z => nxt _ v r1 r2 ?_, fun z => ⟨fun z1 => nxt _ v r1 r2 ?_, fun z1 => ?_⟩⟩
  · rw [fG_l (by omega), List.nil_append] at j3
    exact j3
  · rw [j3] at z1
    have := fG_m (k' := S.length) (by omega) z1
    rw [fG_l (Nat.le_refl _), List.nil_append] at this
    rw [j3, this]
  have hj : j < S.length := by omega
  have hS4 : k1 + S.length ≤ 4000 := by
    rcases hSl with z | z
    · exact z
    · rw [z] at hj
      exact absurd hj (Nat.not_lt_zero _)
  obtain ⟨x, hx⟩ : ∃ x, S[j]? = some x := ⟨_, List.getElem?_eq_getElem hj⟩
  have hx' : (sDc K L (kHd K L (Ls.take i) : Int) t)[j]? = some x := by rw [← hS]; exact hx
  obtain ⟨⟨sl0, -, -, -, sl4⟩, sl5, sl6⟩ := cz_sl Cv h1 hx'
  rw [← hk1] at sl4 sl5 sl6
  have o3 : (3 : Int32).toInt = 3 := by decide
  have o4 : (4 : Int32).toInt = 4 := by decide
  have v3 : (zg v (P + 30) (d3 * 5 + 3)).toInt = slc v P ((k1 + j : Nat) : Int) 3 := by
    rw [zg_sl o3 (by decide) (by omega), j2, show (k1 : Int) + (j : Int) = ((k1 + j : Nat) : Int) by omega]
  have v4 : (zg v (P + 30) (d3 * 5 + 4)).toInt = x.2.2.2 := by
    rw [zg_sl o4 (by decide) (by omega), j2, show (k1 : Int) + (j : Int) = ((k1 + j : Nat) : Int) by omega]
    exact sl4
  have stp : ∀ (v' : zS) (a4 : Int32), RFz P T u v' → (∀ b q, ¬ (b = P ∧ q = 14) → ¬ (b = 75 ∧ (q = 4 ∨ q = 5 ∨ q = 6)) → v'.1 b q = u.1 b q) → v'.1 75 4 = v.1 75 4 → (v'.1 P 14).toInt = ffs (f x) → v_134_63 (fun j => Zt (4 + 8) (wd P j) j) P (fun c2' w' => I c2' w' ∧ (4000 - c2'.toInt).toNat < (4000 - d2.toInt).toNat) (fun d2' d3' v' => (d2' = d2 ∧ RFz P T u v' ∧ (∀ b q, ¬ (b = P ∧ q = 14) → ¬ (b = 75 ∧ (q = 4 ∨ q = 5 ∨ q = 6)) → v'.1 b q = u.1 b q) ∧ (v'.1 75 4).toInt = dOw K L W TN (kTy K (Ls.take i)) t ∧ ∃ j : Nat, j ≤ S.length ∧ d3'.toInt = (k1 : Int) + (j : Int) ∧ (v'.1 P 14).toInt = fG f [] S j) ∧ (100000 - d3'.toInt).toNat < (100000 - d3.toInt).toNat) d2 d3 a4 v' (fun v s' => v = none ∧ RFz P T u s' ∧ (∀ b q, ¬ (b = P ∧ q = 14) → ¬ (b = 75 ∧ (q = 4 ∨ q = 5 ∨ q = 6)) → s'.1 b q = u.1 b q) ∧ (s'.1 P 14).toInt = ffs (dLs K L W ar mv TN Ls).flatten) := by
    intro v' a4 q1 q2 q3 q4
    unfold v_134_63
    intro x1 hx1
    have ex1 := hx1 (by omega)
    refine ⟨⟨rfl, q1, q2, by rw [q3]; exact r3, j + 1, by omega, by omega, ?_⟩, by omega⟩
    rw [q4, fG_s hx (by rw [← j3]; exact z1)]
  rw [v3]
  refine ⟨fun z2 => stp v _ r1 r2 rfl ?_, fun z2 s4 hs4 => ?_⟩
  · have htl : x.2.2.1 < 0 := by
      rcases Int.lt_or_le x.2.2.1 0 with z | z
      · exact z
      · have := (sl6 z).1.1
        omega
    have : f x = [] := by rw [hfd]; exact if_pos htl
    rw [this, z1]
    rfl
  · have htl : 0 ≤ x.2.2.1 := by
      rcases Int.lt_or_le x.2.2.1 0 with z | z
      · have := sl5 z
        omega
      · exact z
    obtain ⟨⟨y5, y6⟩, y7, y8⟩ := sl6 htl
    have q4 : s4.2 = v.2 := by rw [hs4, zf_2]
    have f4 : ∀ b q, ¬ (b = 75 ∧ q = 6) → s4.1 b q = v.1 b q := fun b q z => by rw [hs4, zf_1, if_neg z]
    have R4 : RFz P T u s4 := ⟨fun r a b c d => by rw [q4]; exact r1.1 r a b c d, fun j hj => by rw [q4]; exact r1.2 j hj⟩
    have F4 : ∀ b q, ¬ (b = P ∧ q = 14) → ¬ (b = 75 ∧ (q = 4 ∨ q = 5 ∨ q = 6)) → s4.1 b q = u.1 b q := fun b q z1 z2 => by rw [f4 b q (fun z => z2 ⟨z.1, Or.inr (Or.inr z.2)⟩)]; exact r2 b q z1 z2
    have C4 := CSz_rf hP hT2.1 R4 (fun b => F4 b 2 (fun z => absurd z.2 (by decide)) (fun z => by omega)) C
    have hxm := List.mem_of_getElem? hx'
    obtain ⟨o5, o6, -⟩ := slot_ok h h1 hxm htl
    obtain ⟨lf, -⟩ := sg_fact (W := W) (ar := ar) (TN := TN) h h1 hxm
    have hnT := PR_nT h
    have h24 := h.2.2.1
    obtain ⟨w1, w2, -⟩ := wdC_ok (PR_ar h).1 lf (tp_fact h h1).1 (by omega) o5 o6
    have hk0 := Cv.2.2.2.2.1.2
    have es4 : slc s4 P ((k1 + j : Nat) : Int) 3 = slc v P ((k1 + j : Nat) : Int) 3 := by
      unfold slc
      rw [q4]
    refine Zt.imp (Zt.mo (d := 9) (by omega) (zs_83 (d := 0) (ar := ar) (A := wdC K L W ar TN (hfS K L Ls x.2.2.2) (dTp K L t) x.2.2.1) hP C4.1.1.2.2.2 (PR_ar h).1 w1 (by omega) (by rw [v3]; omega) (by rw [v3]; intro k c hc; rw [q4]; exact y7 k c hc))) ?_
    rintro v5 s6 ⟨hs6, x7, rfl, hx7⟩
    subst hs6
    refine ⟨x7, rfl, ?_⟩
    refine Zt.imp (sl_135 (d := 0) (T := T) (j := j) hP h C4 (by rw [F4 75 3 (fun z => hP75 z.1.symm) (fun z => by omega)]; exact hT) hT2 (by rw [f4 P 14 (fun z => hP75 z.1)]; exact z1) hmv h1 hx' htl (by rw [f4 75 4 (fun z => absurd z.2 (by decide))]; exact r3) (by rw [hs4, zf_1, if_pos ⟨rfl, rfl⟩]; exact v4) (by rw [v3, ← hk1, es4]) (by rw [hx7])) ?_
    rintro v8 s9 ⟨rfl, p1, p2, p3⟩
    refine ⟨rfl, stp s9 _ (RFz_tr R4 p1) (fun b q z1 z2 => by rw [p2 b q z1]; exact F4 b q z1 z2) ?_ (by rw [p3, hfd])⟩
    rw [p2 75 4 (fun z => hP75 z.1.symm), f4 75 4 (fun z => absurd z.2 (by decide))]
end Z9C
