/-! ===== the class: meets, whole ===== -/
section YMW
variable {ar K kd : Int → Int} {cf : Nat → Int} {P d F H : Nat} {s : zS} {a1 a2 : Int32} {A' B' O' : List Int} {t n ca cb co : Int} {TN : List Int} {hd : Nat → Nat × Nat × List (List Int)}
theorem MFz_r4 {u : zS} (hP : P = 3 ∨ P = 39) (g : MFz P t s u) : u.2 (P + 24) = s.2 (P + 24) ∧ u.2 (P + 26) = s.2 (P + 26) ∧ u.2 (P + 28) = s.2 (P + 28) ∧ u.2 (P + 22) = s.2 (P + 22) := ⟨g.2.1 _ (by omega) (by omega) (by omega), g.2.1 _ (by omega) (by omega) (by omega), g.2.1 _ (by omega) (by omega) (by omega), g.2.1 _ (by omega) (by omega) (by omega)⟩
set_option maxHeartbeats 4000000 in
/-- meets: ca :: A' stands at a1, cb :: B' at a2; co :: O' tells the METHODS of the first -/
theorem zs_88 (hP : P = 3 ∨ P = 39) (hA : KI (s.2 (P + 22)) = ar) (h6 : ∀ c, 0 ≤ ar c ∧ ar c ≤ 7) (h24 : ∀ c, 24 ≤ c → ar c = 0) (ht : (s.1 75 3).toInt = t) (ht2 : 18 ≤ t ∧ t + 120 ≤ 18738) (hS : SGz P s) (hT : TNz P s K n TN) (hK : KDz P s kd TN) (hF : FNi P s cf (TN.length : Int) F) (hF6 : F ≤ 60) (hH : H ≤ 4000) (hHd : HDz ar P s hd H) (hF1 : ∀ f : Nat, f < F → 0 ≤ fnc s P (f : Int) 5 ∧ fnc s P (f : Int) 5 < (H : Int)) (hH2 : ∀ c, kd c = 2 → 0 ≤ tyc s P c 3 ∧ 0 ≤ tyc s P c 4 ∧ tyc s P c 4 ≤ 100 ∧ tyc s P c 3 + tyc s P c 4 ≤ (H : Int))
    (hAr : isR ar 1 (ca :: A')) (hAl : (ca :: A').length ≤ 60) (hAc : 0 ≤ ca ∧ ca < 36) (h1 : 0 ≤ a1.toInt ∧ a1.toInt ≤ 82938) (hAw : WDz P s a1.toInt (ca :: A')) (hAp : APt t a1.toInt (ca :: A').length)
    (hBr : isR ar 1 (cb :: B')) (hBl : (cb :: B').length ≤ 60) (hBc : 0 ≤ cb ∧ cb < 36) (h2 : 0 ≤ a2.toInt ∧ a2.toInt ≤ 82938) (hBw : WDz P s a2.toInt (cb :: B')) (hBp : APt t a2.toInt (cb :: B').length)
    (h4 : 24 ≤ ca → ca < 30 → (0 ≤ (s.1 75 4).toInt ∧ (s.1 75 4).toInt ≤ 100) ∧ 0 ≤ tyc s P (s.1 75 4).toInt 2 ∧ tyc s P (s.1 75 4).toInt 2 ≤ 4000) (h5 : 30 ≤ ca → (0 ≤ (s.1 75 6).toInt ∧ (s.1 75 6).toInt ≤ 4000) ∧ 0 ≤ sgc s P (s.1 75 6).toInt 2 ∧ sgc s P (s.1 75 6).toInt 2 ≤ 4000)
    (hO : (ca < 24 ∧ co :: O' = ca :: A') ∨ (24 ≤ ca ∧ ∃ x : Int, x = (if ca < 30 then slc s P (tyc s P (s.1 75 4).toInt 2 + (ca - 24)) 3 else slc s P (sgc s P (s.1 75 6).toInt 2 + (ca - 30)) 3) ∧ 18738 ≤ x ∧ x ≤ 82938 ∧ WDz P s x (co :: O') ∧ isR ar 1 (co :: O') ∧ (co :: O').length ≤ 60)) (hco : 0 ≤ co ∧ co ≤ 100) :
    Zt (d + 11) (wd P 88) 88 [.ref 75, .int a1, .int a2] s (fun v s' => MFz P t s s' ∧ ∃ r : Int32, v = some (.int r) ∧ r.toInt = if kd cb = 2 then mtL (sgO cf F kd P s co) (fun h => sgc s P (h : Int) 1) hd (eta (argT ar (cb :: B')) sTn) (eta (argT ar (co :: O')) sTn) (tyc s P cb 3).toNat (tyc s P cb 4).toNat else if ca :: A' = cb :: B' then 0 else 7) := by
  have wA : KI (s.2 (P + 18)) a1.toInt = ca := by
    have := hAw 0 ca rfl
    rw [show a1.toInt + ((0 : Nat) : Int) = a1.toInt by omega] at this
    exact this
  have wB : KI (s.2 (P + 18)) a2.toInt = cb := by
    have := hBw 0 cb rfl
    rw [show a2.toInt + ((0 : Nat) : Int) = a2.toInt by omega] at this
    exact this
  have zB : (zg s (P + 18) a2).toInt = cb := by
    rw [zg_K]
    exact wB
  obtain ⟨fc, hfc⟩ : ∃ fc, zg s (P + 18) a2 = fc := ⟨_, rfl⟩
  rw [hfc] at zB
  have zk := zInf_k (kd := kd) hT hK (x := fc) (by omega)
  rw [zB] at zk
  refine zc_88 (d := d + 2) hP ?_
  unfold v_88_0
  rw [hfc]
  refine ⟨fun y => ?_, fun y => ?_⟩
  · have k2 : kd cb = 2 := by
      by_cases q : kd cb = 2
      · exact q
      · exact absurd (zk.1.mpr q) y
    rw [if_pos k2]
    obtain ⟨V, hV⟩ : ∃ V, mtL (sgO cf F kd P s co) (fun h => sgc s P (h : Int) 1) hd (eta (argT ar (cb :: B')) sTn) (eta (argT ar (co :: O')) sTn) (tyc s P cb 3).toNat (tyc s P cb 4).toNat = V := ⟨_, rfl⟩
    rw [hV]
    obtain ⟨m1, m2, m3, m4⟩ := hH2 cb k2
    refine Zt.imp (Zt.mo (d := 9) (by omega) (zs_90 (d := 0) hP (by rw [wA]; omega) (by rw [wA]; exact h4) (by rw [wA]; exact h5))) ?_
    rintro v1 s2 ⟨hs2, x3, rfl, hr3⟩
    subst hs2
    refine ⟨x3, rfl, ?_⟩
    rw [wA] at hr3
    obtain ⟨o1, o2, o3, o4, o5⟩ : (0 ≤ x3.toInt ∧ x3.toInt ≤ 82938) ∧ WDz P s2 x3.toInt (co :: O') ∧ APt t x3.toInt (co :: O').length ∧ isR ar 1 (co :: O') ∧ (co :: O').length ≤ 60 := by
      rcases hO with ⟨q1, q2⟩ | ⟨q1, x, q2, q3, q4, q5, q6, q7⟩
      · rw [if_pos q1] at hr3
        rw [hr3, q2]
        exact ⟨h1, hAw, hAp, hAr, hAl⟩
      · rw [if_neg (by omega), ← q2] at hr3
        rw [hr3]
        exact ⟨by omega, q5, Or.inr q3, q6, q7⟩
    clear hO
    have wO : KI (s2.2 (P + 18)) x3.toInt = co := by
      have := o2 0 co rfl
      rw [show x3.toInt + ((0 : Nat) : Int) = x3.toInt by omega] at this
      exact this
    have tail : ∀ {c : Int} {l : List Int} {x : Int}, WDz P s2 x (c :: l) → WDz P s2 (x + 1) l := fun {c l x} g i c' hc' => by
      have := g (i + 1) c' hc'
      rw [show x + ((i + 1 : Nat) : Int) = x + 1 + (i : Int) by omega] at this
      exact this
    obtain ⟨p1, p2, p3⟩ := argT_ok h6 o4
    obtain ⟨q1, q2, q3⟩ := argT_ok h6 hBr
    have hsl : sTn.flatten.length = 6 ∧ sTn.length = 6 := ⟨rfl, rfl⟩
    have e12 : (12 : Int32).toInt = 12 := by decide
    have hac := h6 co
    have hbc := h6 cb
    have lO : (co :: O').length = O'.length + 1 := rfl
    have lB : (cb :: B').length = B'.length + 1 := rfl
    have ap1 : ∀ {x : Int} {m : Nat}, APt t x (m + 1) → APt t (x + 1) m := fun {x m} g => APt_in g (by omega) (by omega)
    have hP18 : ¬ P + 18 = 78 ∧ ¬ P + 18 = 80 ∧ ¬ P + 22 = 78 ∧ ¬ P + 22 = P + 18 ∧ ¬ P + 22 = 80 ∧ ¬ (78 : Nat) = P + 18 ∧ ¬ (80 : Nat) = P + 18 := by rcases hP with rfl | rfl <;> decide
    refine Zt.imp (Zt.mo (d := 10) (by omega) (zs_86 (d := 0) (e := 78) (ar := ar) (t := t) (X := argT ar (co :: O')) (Y := sTn) hP (Or.inr (Or.inl rfl)) hA h6 h24 hS (by omega) (fun _ => by rw [e12]; omega) (by rw [wO]; exact p3.symm) p2 (by rw [p1]; exact tail o2) ⟨by rw [p1]; omega, by omega⟩ (by decide) (sTn_R h24) (by rw [e12]; exact sTn_W hS) ⟨by rw [hsl.1]; omega, by rw [hsl.2]; omega⟩ ht2.1 (by rw [p1]; exact ap1 o3) (fun _ => by rw [e12, hsl.1]; exact Or.inl (by omega)))) ?_
    rintro v4 s5 ⟨rfl, f1, f2, f3⟩
    refine ⟨rfl, ?_⟩
    have r18 : s5.2 (P + 18) = s2.2 (P + 18) := f2 _ hP18.1
    have r22 : KI (s5.2 (P + 22)) = ar := by
      rw [f2 _ hP18.2.2.1]
      exact hA
    have wB5 : KI (s5.2 (P + 18)) a2.toInt = cb := by
      rw [r18]
      exact wB
    have hS5 : SGz P s5 := fun i hi => by
      rw [r18]
      exact hS i hi
    refine Zt.imp (Zt.mo (d := 10) (by omega) (zs_86 (d := 0) (e := 80) (ar := ar) (t := t) (X := argT ar (cb :: B')) (Y := sTn) hP (Or.inr (Or.inr rfl)) r22 h6 h24 hS5 (by omega) (fun _ => by rw [e12]; omega) (by rw [wB5]; exact q3.symm) q2 (by rw [q1]; exact WDz_r r18 (tail hBw)) ⟨by rw [q1]; omega, by omega⟩ (by decide) (sTn_R h24) (by rw [e12]; exact sTn_W hS5) ⟨by rw [hsl.1]; omega, by rw [hsl.2]; omega⟩ ht2.1 (by rw [q1]; exact ap1 hBp) (fun _ => by rw [e12, hsl.1]; exact Or.inl (by omega)))) ?_
    rintro v6 s7 ⟨rfl, j1, j2, j3⟩
    refine ⟨rfl, ?_⟩
    have M7 : MFz P t s2 s7 := ⟨by rw [j1, f1], fun r k1 k2 k3 => by rw [j2 r k3, f2 r k2], fun j hj => by rw [j2 _ hP18.2.1, r18]⟩
    have E78 : ENz P s7 78 t (eta (argT ar (co :: O')) sTn) 12 := ENz_r (j2 _ (by decide)) (j2 _ hP18.2.1) f3
    have rw3 : ∀ {u : zS}, MFz P t s2 u → u.2 (P + 24) = s2.2 (P + 24) ∧ u.2 (P + 26) = s2.2 (P + 26) ∧ u.2 (P + 28) = s2.2 (P + 28) ∧ u.2 (P + 22) = s2.2 (P + 22) := fun {u} g => MFz_r4 hP g
    have ty_r : ∀ {u : zS} (c k : Int), MFz P t s2 u → tyc u P c k = tyc s2 P c k := fun {u} c k g => by
      unfold tyc
      rw [(rw3 g).1]
    have sg_r : ∀ {u : zS} (c k : Int), MFz P t s2 u → sgc u P c k = sgc s2 P c k := fun {u} c k g => by
      unfold sgc
      rw [(rw3 g).2.2.1]
    have t3 := zg_ty (s := s7) (P := P) (a1 := fc) (c := 3) (k := 3) (by decide) (by decide) (by omega)
    rw [zB, ty_r _ _ M7] at t3
    refine ⟨fun c1 c2 c3 c4 c5 c6 u => c1 = a1 ∧ c2 = a2 ∧ c3 = fc ∧ c4 = x3 ∧ c5.toInt = tyc s2 P cb 3 ∧ u.1 = s7.1 ∧ PFz P t s7 u ∧ ∃ i : Nat, c6.toInt = (i : Int) ∧ (i : Int) ≤ tyc s2 P cb 4 ∧ V = mtL (sgO cf F kd P s2 co) (fun h => sgc s2 P (h : Int) 1) hd (eta (argT ar (cb :: B')) sTn) (eta (argT ar (co :: O')) sTn) ((tyc s2 P cb 3).toNat + i) ((tyc s2 P cb 4).toNat - i), fun _ _ _ _ _ c6 _ => (100 - c6.toInt).toNat, ⟨rfl, rfl, rfl, rfl, t3, rfl, ⟨fun _ _ => rfl, fun _ _ => rfl, fun _ _ _ => rfl⟩, 0, by decide, by omega, hV.symm⟩, ?_⟩
    rintro c1 c2 c3 c4 c5 c6 u ⟨e1, e2, e3, e4, g1, g2, g3, i, g4, g5, g6⟩
    subst e1 e2 e3 e4
    have Mu : MFz P t s2 u := MFz_pf M7 g2 g3
    obtain ⟨u24, u26, u28, u22⟩ := rw3 Mu
    have t4 := zg_ty (s := u) (P := P) (a1 := c3) (c := 4) (k := 4) (by decide) (by decide) (by omega)
    rw [zB, ty_r _ _ Mu] at t4
    unfold v_88_45
    rw [t4]
    refine ⟨fun y2 => ⟨Mu, 0, rfl, ?_⟩, fun y2 x2 hx2 => ?_⟩
    · rw [g6, show (tyc s2 P cb 4).toNat - i = 0 by omega]
      show (0 : Int32).toInt = 0
      decide
    · have ex2 := hx2 (by omega)
      obtain ⟨h, hh⟩ : ∃ h : Nat, h = (tyc s2 P cb 3).toNat + i := ⟨_, rfl⟩
      have hx2h : x2.toInt = (h : Int) := by omega
      have hhH : h < H := by omega
      have es : (zg u (P + 28) (x2 * 5 + 1)).toInt = sgc s2 P (h : Int) 1 := by
        rw [zg_sg (s := u) (P := P) (a1 := x2) (c := 1) (k := 1) (by decide) (by decide) (by omega), hx2h, sg_r _ _ Mu]
      have ew : (zg u (P + 18) c4).toInt = co := by
        rw [zg_K]
        have := MFz_wd Mu o1.1 o3 o2 0 co rfl
        rw [show c4.toInt + ((0 : Nat) : Int) = c4.toInt by omega] at this
        exact this
      have val : V = if mtK (sgO cf F kd P s2 co) (fun h => sgc s2 P (h : Int) 1) hd (eta (argT ar (cb :: B')) sTn) (eta (argT ar (co :: O')) sTn) h = 0 then mtL (sgO cf F kd P s2 co) (fun h => sgc s2 P (h : Int) 1) hd (eta (argT ar (cb :: B')) sTn) (eta (argT ar (co :: O')) sTn) ((tyc s2 P cb 3).toNat + (i + 1)) ((tyc s2 P cb 4).toNat - (i + 1)) else mtK (sgO cf F kd P s2 co) (fun h => sgc s2 P (h : Int) 1) hd (eta (argT ar (cb :: B')) sTn) (eta (argT ar (co :: O')) sTn) h := by
        rw [g6, show (tyc s2 P cb 4).toNat - i = (tyc s2 P cb 4).toNat - (i + 1) + 1 by omega, hh]
        rfl
      have fin : ∀ (q7 k0 : Int32) (u' : zS), u'.1 = u.1 → PFz P t u u' → k0.toInt = mtK (sgO cf F kd P s2 co) (fun h => sgc s2 P (h : Int) 1) hd (eta (argT ar (cb :: B')) sTn) (eta (argT ar (co :: O')) sTn) h → v_88_77 (fun j => Zt (d + 2 + 8) (wd P j) j) P (fun a1' a2' a3' a4' a5' a6' u' => (a1' = c1 ∧ a2' = c2 ∧ a3' = c3 ∧ a4' = c4 ∧ a5'.toInt = tyc s2 P cb 3 ∧ u'.1 = s7.1 ∧ PFz P t s7 u' ∧ ∃ i : Nat, a6'.toInt = (i : Int) ∧ (i : Int) ≤ tyc s2 P cb 4 ∧ V = mtL (sgO cf F kd P s2 co) (fun h => sgc s2 P (h : Int) 1) hd (eta (argT ar (cb :: B')) sTn) (eta (argT ar (co :: O')) sTn) ((tyc s2 P cb 3).toNat + i) ((tyc s2 P cb 4).toNat - i)) ∧ (100 - a6'.toInt).toNat < (100 - c6.toInt).toNat) c1 c2 c3 c4 c5 c6 q7 k0 u' (fun v s' => MFz P t s2 s' ∧ ∃ r : Int32, v = some (.int r) ∧ r.toInt = V) := by
        intro q7 k0 u' b1 b2 b3
        have b4 : u'.1 = s7.1 := by rw [b1, g2]
        have b5 : PFz P t s7 u' := PFz_tr g3 (Int.le_refl _) b2
        unfold v_88_77
        rw [b3]
        refine ⟨fun y3 x1 hx1 => ?_, fun y3 => ⟨MFz_pf M7 b4 b5, k0, rfl, ?_⟩⟩
        · have ex1 := hx1 (by omega)
          refine ⟨⟨rfl, rfl, rfl, rfl, g1, b4, b5, i + 1, by omega, by omega, ?_⟩, by omega⟩
          rw [val, if_pos y3]
        · rw [val, if_neg y3]
          exact b3
      refine Zt.imp (Zt.mo (d := 10) (by omega) (zs_52 (d := 0) hP (TNz_r Mu.1 u24 hT) (KDz_r u24 hK) (FNi_r u24 u26 hF) hF6 (by rw [ew]; exact hco) (fun q => ?_))) ?_
      · rw [ew] at q ⊢
        have := hH2 co q
        rw [ty_r _ _ Mu, ty_r _ _ Mu]
        omega
      rintro v4 s8 ⟨hs8, x6, rfl, hr6⟩
      subst hs8
      rw [ew, es, sgO_r u24 u26 u28] at hr6
      have hb := sgO_b (cf := cf) (kd := kd) (c := co) (x := sgc s2 P (h : Int) 1) hF1 hH2
      rw [← hr6] at hb
      refine ⟨x6, rfl, fun y6 x7 hx7 => ?_, fun y6 => ?_⟩
      · have ex7 := hx7 (by omega)
        have hx7h : x7.toInt = (h : Int) := by omega
        obtain ⟨g, hg⟩ : ∃ g : Nat, x6.toInt = (g : Int) := ⟨x6.toInt.toNat, by omega⟩
        have hHu := HDz_mf hP Mu hHd
        obtain ⟨a3, a4, a5, a6⟩ := hHu h hhH
        obtain ⟨b3, b4, b5, b6⟩ := hHu g (by omega)
        refine Zt.imp (Zt.mo (d := 10) (by omega) (zs_89 (d := 0) (ar := ar) (t := t) (nf := (hd h).1) (nv := (hd h).2.1) (nf' := (hd g).1) (nv' := (hd g).2.1) (X := (hd h).2.2) (Y := (hd g).2.2) (η := eta (argT ar (cb :: B')) sTn) (θ := eta (argT ar (co :: O')) sTn) hP (by rw [u22]; exact hA) h6 h24 (by rw [Mu.1]; exact ht) (by omega) (ENz_pf g3 (Int.le_refl _) hP18.2.2.2.2.2.2 j3) (ENz_pf g3 (Int.le_refl _) hP18.2.2.2.2.2.1 E78) (fun p _ => eta_R h24 q2 (sTn_R h24) p) (fun p _ => eta_R h24 p2 (sTn_R h24) p) (by omega) (by omega) (by rw [hx7h]; exact ⟨a3.1, a3.2.1, rfl⟩) (by rw [hg]; exact ⟨b3.1, b3.2.1, rfl⟩) a4 a3.2.2 b3.2.2 a6 a5 b6 b5)) ?_
        rintro v8 s9 ⟨⟨w1, w2⟩, x10, rfl, hr10⟩
        refine ⟨x10, rfl, fin _ _ _ w1 w2 ?_⟩
        unfold mtK alkH
        rw [if_neg (by rw [← hr6]; omega), ← hr6, hr10, hg, Int.toNat_natCast]
      · refine fin _ _ _ rfl ⟨fun _ _ => rfl, fun _ _ => rfl, fun _ _ _ => rfl⟩ ?_
        unfold mtK
        rw [if_pos (by rw [← hr6]; omega)]
        decide
  · have k2 : ¬ kd cb = 2 := zk.1.mp y
    rw [if_neg k2]
    refine Zt.imp (Zt.mo (d := 9) (by omega) (zs_84 (d := 0) hP hA h6 hAr hBr hAl (by omega) (by omega) hAw hBw)) ?_
    rintro v9 s10 ⟨hs10, x11, rfl, hr⟩
    subst hs10
    have M0 : MFz P t s10 s10 := ⟨rfl, fun _ _ _ _ => rfl, fun _ _ => rfl⟩
    refine ⟨x11, rfl, fun y1 => ⟨M0, 7, rfl, ?_⟩, fun y1 => ⟨M0, 0, rfl, ?_⟩⟩
    · rcases hr with q | q
      · omega
      · rw [if_neg q.2]
        decide
    · rcases hr with q | q
      · rw [if_pos q.2]
        decide
      · exact absurd q.1 y1
end YMW
