/-! ===== the class: fill, put, meets of TYPES at their places ===== -/
/-- TYPES side by side, kept -/
def TYs (ar : Int → Int) (nT nX nY : Int) (P : Nat) (k : Int) (s : zS) (r : Int) (Ys : List (List Int)) : Prop := Ys.length ≤ 6 ∧ (Ys ≠ [] → 18738 ≤ r ∧ r + (Ys.flatten.length : Int) ≤ k) ∧ WDz P s r Ys.flatten ∧ ∀ y ∈ Ys, isR ar 1 y ∧ (y.length ≤ 60 ∧ cdT nT y) ∧ cdW nX nY y
section ZZPT
variable {K L W ar kd : Int → Int} {TN Ls : List Int} {n lo hi lo' hi' B b β0 β1 k0 c co T T0 k k' nT nX nY : Int} {S : Scp} {d P i : Nat} {s s' u : zS} {a1 a2 a3 a4 a5 a7 : Int32} {O A Z A' O' : List Int} {Ys : List (List Int)} {η : Nat → List Int}
theorem fl_60 : ∀ (l : List (List Int)), (∀ y ∈ l, y.length ≤ 60) → l.flatten.length ≤ 60 * l.length
  | [], _ => Nat.zero_le _
  | a :: l, h => by
    rw [List.flatten_cons, List.length_append, List.length_cons]
    have h1 := h a List.mem_cons_self
    have h2 := fl_60 l (fun y hy => h y (List.mem_cons_of_mem _ hy))
    omega
theorem ar_le6 (h : PRm K L W ar kd n lo hi TN Ls) (h0 : 0 ≤ c) (h1 : c < 24 → c < (TN.length : Int)) : ar c ≤ 6 := by
  have hnT := PR_nT h
  rcases Int.lt_or_le c 24 with q | q
  · obtain ⟨i, t, g1, g6, e⟩ := ty_dc (K := K) (Ls := Ls) h0 (by have := h1 q; omega)
    obtain ⟨t1, t2⟩ := tp_fact h g1
    rw [if_neg g6, ← e] at t2
    omega
  · have := (PR_ar h).2 c q
    omega
theorem TYc_ne (h : TYc ar nT nX nY P T k s c A) : ∃ a l, A = a :: l := by
  cases A with
  | nil => exact absurd rfl (isR_ne h.2.2.1)
  | cons a l => exact ⟨a, l, rfl⟩
theorem TYs_e (h : CFe P T k s s') (g : TYs ar nT nX nY P k s c Ys) (hk : k ≤ k') : TYs ar nT nX nY P k' s' c Ys := by
  refine ⟨g.1, fun q => ⟨(g.2.1 q).1, by have := (g.2.1 q).2; omega⟩, ?_, g.2.2.2⟩
  by_cases q : Ys = []
  · rw [q]
    exact fun i c hc => by cases hc
  · obtain ⟨h1, h2⟩ := g.2.1 q
    exact CFe_wd h (by omega) (Or.inr ⟨h1, h2⟩) g.2.2.1
theorem TYc_hd (h : TYc ar nT nX nY P T k s c (co :: O')) : KI (s.2 (P + 18)) c = co := by
  have := h.2.1 0 co rfl
  rw [show c + ((0 : Nat) : Int) = c by omega] at this
  exact this
/-- fill -/
theorem t_86 (hP : P = 3 ∨ P = 39) (h : PRm K L W ar kd n lo hi TN Ls) (C : CSz K L W ar kd TN Ls n k0 P s) (hT : 18 ≤ T ∧ T ≤ 18738) (hk : k ≤ 82938) (hO : TYc ar (TN.length : Int) nX nY P T k s a2.toInt (co :: O')) (hY : TYs ar (TN.length : Int) nX nY P k s a3.toInt Ys) (h4 : a4.toInt = (Ys.length : Int)) : Zt (d + 10) (wd P 86) 86 [.ref 75, .ref 76, .int a2, .int a3, .int a4] s (fun v s' => v = none ∧ s'.1 = s.1 ∧ (∀ r, ¬ r = 76 → s'.2 r = s.2 r) ∧ ENz P s' 76 T (eta (argT ar (co :: O')) Ys) 12) := by
  obtain ⟨ha, h24⟩ := PR_ar h
  have hw := TYc_hd hO
  obtain ⟨⟨o0, o1⟩, o2, o3, ⟨o4, o4'⟩, o5⟩ := hO
  obtain ⟨p1, p2, p3⟩ := argT_ok ha o3
  have hc6 := ar_le6 h (c := co) (o5 co List.mem_cons_self).1 (o4' co List.mem_cons_self)
  have hl : (co :: O').length = O'.length + 1 := rfl
  obtain ⟨y1, y2, y3, y4⟩ := hY
  have hfl := fl_60 Ys (fun y hy => (y4 y hy).2.1.1)
  refine zs_86 (e := 76) (ar := ar) (t := T) hP (Or.inl rfl) C.1.1.2.2.2 ha h24 C.2.1 (by omega) (fun q => ?_) (by rw [hw]; exact p3.symm) p2 ?_ ⟨by rw [p1]; omega, by omega⟩ h4 (fun y hy => (y4 y hy).1) y3 ⟨by omega, y1⟩ hT.1 (by rw [p1]; unfold APt; omega) (fun q => ?_)
  · have := y2 q
    omega
  · rw [p1]
    intro j c hj
    have := o2 (j + 1) c hj
    rw [show a2.toInt + ((j + 1 : Nat) : Int) = a2.toInt + 1 + (j : Int) by omega] at this
    exact this
  · have := y2 q
    exact Or.inr this.1
/-- put -/
theorem t_87 (hP : P = 3 ∨ P = 39) (h : PRm K L W ar kd n lo hi TN Ls) (hA : KI (s.2 (P + 22)) = ar) (ht : (s.1 75 3).toInt = T) (hT : 18 ≤ T ∧ T + 60 ≤ 18738) (hE : ENz P s 76 T η 12) (hη : pOK ar (TN.length : Int) nX nY η Z) (hZ1 : isR ar 1 Z) (hZ2 : Z.length ≤ 60) {nn mm : Int} (hZ3 : cdW nn mm Z) (hZ4 : cdT (TN.length : Int) Z) (h1 : 18738 ≤ a1.toInt ∧ a1.toInt + (Z.length : Int) ≤ k) (hk : k ≤ 82938) (hw : WDz P s a1.toInt Z) : Zt (d + 9) (wd P 87) 87 [.ref 75, .int a1, .ref 76] s (fun v s' => PFz P T s s' ∧ ∃ r : Int32, v = some (.int r) ∧ ((60 < (sbs η Z).length ∧ r.toInt = -1) ∨ ((sbs η Z).length ≤ 60 ∧ ∃ T', (s'.1 75 3).toInt = T' ∧ T ≤ T' ∧ T' ≤ T + 60 ∧ TYc ar (TN.length : Int) nX nY P T' k s' r.toInt (sbs η Z) ∧ T ≤ r.toInt))) := by
  obtain ⟨ha, h24⟩ := PR_ar h
  have hc : ∀ c ∈ Z, 0 ≤ c ∧ c < 36 := fun c hc => ⟨(hZ3 c hc).1, (hZ3 c hc).2.1⟩
  refine Zt.imp (zs_87 (ar := ar) (t := T) hP (Or.inl rfl) hA ha ht ⟨by omega, hT.2⟩ hE hZ1 hZ2 hc ⟨by omega, by omega⟩ hw (Or.inr h1.1)) ?_
  rintro v s' ⟨f1, r, rfl, hr⟩
  have rR : isR ar 1 (sbs η Z) := sbs_R Z 1 hZ1 (fun c hc h24' => ⟨h24 c h24', (hη c hc h24').1⟩)
  refine ⟨f1, r, rfl, ?_⟩
  rcases hr with ⟨g1, g2, -⟩ | ⟨g1, g2, g3⟩
  · exact Or.inl ⟨g1, g2⟩
  · refine Or.inr ⟨g1, ?_⟩
    rcases g3 with ⟨q1, q2, q3⟩ | ⟨q1, q2⟩
    · have hs : sbs η Z = Z := by
        unfold sbs
        have key : ∀ l : List Int, (∀ c ∈ l, c < 24) → l.flatMap (fun c => if c < 24 then [c] else η (c - 24).toNat) = l := fun l => by
          induction l with
          | nil => exact fun _ => rfl
          | cons c l ih =>
            intro hl
            rw [List.flatMap_cons, if_pos (hl c List.mem_cons_self), ih (fun c hc => hl c (List.mem_cons_of_mem _ hc))]
            rfl
        exact key Z q3
      refine ⟨T, by rw [q2]; exact ht, Int.le_refl _, by omega, ⟨⟨by rw [q1]; omega, Or.inr (by rw [q1, hs]; exact h1)⟩, g2, rR, ⟨g1, sbs_cdT hη hZ4⟩, sbs_cdW hη hZ3⟩, by rw [q1]; omega⟩
    · refine ⟨T + ((sbs η Z).length : Int), q2, by omega, by omega, ⟨⟨by omega, Or.inl (by omega)⟩, g2, rR, ⟨g1, sbs_cdT hη hZ4⟩, sbs_cdW hη hZ3⟩, by omega⟩
/-- meets -/
theorem t_88 (hP : P = 3 ∨ P = 39) (h : PRm K L W ar kd n lo' hi' TN Ls) (I : CIn K L W ar kd TN Ls n k0 S P lo hi T0 s) (ht : (s.1 75 3).toInt = T) (hT : 18 ≤ T ∧ T + 120 ≤ 18738) (hk : k ≤ 82938) (hA : TYc ar (TN.length : Int) (S.2.1.length : Int) (S.1.length : Int) P T k s a1.toInt A) (hZ : TYc ar (TN.length : Int) (S.2.1.length : Int) (S.1.length : Int) P T k s a2.toInt Z) : Zt (d + 11) (wd P 88) 88 [.ref 75, .int a1, .int a2] s (fun v s' => MFz P T s s' ∧ ∃ r : Int32, v = some (.int r) ∧ r.toInt = mvD K L W ar kd TN Ls A (ownT S.2.2.1 A) Z ∧ 0 ≤ r.toInt ∧ r.toInt ≤ 9) := by
  obtain ⟨ha, h24⟩ := PR_ar h
  obtain ⟨ca, A', rfl⟩ := TYc_ne hA
  obtain ⟨cb, B', rfl⟩ := TYc_ne hZ
  have C := I.1
  obtain ⟨m1, m2, m3, m4, m5, m6, m7, m8⟩ := cz_lk h C
  have hSP := CI_sp h I hA.2.2.2.2 ca List.mem_cons_self
  obtain ⟨⟨p0, p1⟩, p2, p3, ⟨p4, p4'⟩, p5⟩ := hA
  obtain ⟨⟨z0, z1⟩, z2, z3, ⟨z4, z4'⟩, z5⟩ := hZ
  have ca0 := p5 ca List.mem_cons_self
  have cb0 := z5 cb List.mem_cons_self
  have hla : 1 ≤ (ca :: A').length := Nat.succ_pos _
  have hlb : 1 ≤ (cb :: B').length := Nat.succ_pos _
  obtain ⟨co, O', eO, hco, hO⟩ : ∃ (co : Int) (O' : List Int), ownT S.2.2.1 (ca :: A') = co :: O' ∧ (0 ≤ co ∧ co ≤ 100) ∧ ((ca < 24 ∧ co :: O' = ca :: A') ∨ (24 ≤ ca ∧ ∃ x : Int, x = (if ca < 30 then slc s P (tyc s P (s.1 75 4).toInt 2 + (ca - 24)) 3 else slc s P (sgc s P (s.1 75 6).toInt 2 + (ca - 30)) 3) ∧ 18738 ≤ x ∧ x ≤ 82938 ∧ WDz P s x (co :: O') ∧ isR ar 1 (co :: O') ∧ (co :: O').length ≤ 60)) := by
    by_cases q : ca < 24
    · exact ⟨ca, A', if_pos q, by omega, Or.inl ⟨q, rfl⟩⟩
    · obtain ⟨-, -, co, O', x, e1, e2, e3, e4, e5, e6, e7, e8⟩ := hSP (by omega)
      exact ⟨co, O', by rw [← e1]; exact if_neg q, e2, Or.inr ⟨by omega, x, e3, e4, e5, e6, e7, e8⟩⟩
  refine Zt.imp (zs_88 (ar := ar) (t := T) (hd := hdd K L W ar TN Ls) (H := kHd K L Ls) hP m1 ha h24 ht hT m2 m3 m4 m5 h.2.2.1.2 C.2.2.2.2.2.2.2.2 m6 m7 m8 p3 p4 ⟨ca0.1, ca0.2.1⟩ ⟨p0, by omega⟩ p2 (by unfold APt; omega) z3 z4 ⟨cb0.1, cb0.2.1⟩ ⟨z0, by omega⟩ z2 (by unfold APt; omega) (fun q1 q2 => (hSP q1).1 q2) (fun q1 => (hSP (by omega)).2.1 q1) hO hco) ?_
  rintro v s' ⟨f1, r, rfl, hr⟩
  have e : r.toInt = mvD K L W ar kd TN Ls (ca :: A') (ownT S.2.2.1 (ca :: A')) (cb :: B') := by
    rw [eO]
    unfold mvD soD
    have := cz_mv h C
    rw [hr]
    show mvS ar kd (cfO K L W TN Ls) (kFn K Ls) (hdd K L W ar TN Ls) P s (ca :: A') (co :: O') (cb :: B') = _
    rw [this]
  refine ⟨f1, r, rfl, e, ?_⟩
  rw [e]
  unfold mvD
  rcases mtV_b (ar := ar) (kd := kd) (so := soD K L W kd TN Ls) (hw := hwd K L W Ls) (hd := hdd K L W ar TN Ls) (tm := tmd K L Ls) (tn := tnd K L Ls) (A := ca :: A') (O := ownT S.2.2.1 (ca :: A')) (D := cb :: B') with q | q | q <;> rw [q] <;> decide
theorem CFe_mf (hP : P = 3 ∨ P = 39) (h : MFz P T s s') : CFe P T k s s' := ⟨fun r h1 _ _ _ h2 h3 => h.2.1 r h1 h2 h3, fun j hj => h.2.2 j (by omega), fun j _ => by rw [h.2.1 _ (by omega) (by omega) (by omega)], fun c q _ _ _ _ => by rw [h.1]⟩
set_option maxHeartbeats 2000000 in
/-- fill, put, meets: a TYPE A against slot i's TYPE with what is put; R goes on with the kind -/
theorem fpm {R : Int32 → Int32 → zS → Prop} (hP : P = 3 ∨ P = 39) (h : PRm K L W ar kd n lo' hi' TN Ls) (I : CIn K L W ar kd TN Ls n k0 S P lo hi T0 s) (hT0 : 18 ≤ T0) (ht : (s.1 75 3).toInt = T) (hT : T0 ≤ T ∧ T + 180 ≤ 18738) (hk0 : k0 ≤ k) (hk : k ≤ 82938) (hO : TYc ar (TN.length : Int) (S.2.1.length : Int) (S.1.length : Int) P T k s a3.toInt (co :: O')) (hY : TYs ar (TN.length : Int) (S.2.1.length : Int) (S.1.length : Int) P k s a4.toInt Ys) (h5 : a5.toInt = (Ys.length : Int)) {sl : Int} (hi1 : a1.toInt + a7.toInt = sl) (hi2 : 0 ≤ sl ∧ sl ≤ 4990) (hZ0 : 18738 ≤ slc s P sl 3) (hZk : slc s P sl 3 + (Z.length : Int) ≤ k0) (hZw : WDz P s (slc s P sl 3) Z) (hZ1 : isR ar 1 Z) (hZ2 : Z.length ≤ 60) (hZ3 : cdW ((argT ar (co :: O')).length : Int) (Ys.length : Int) Z) (hZ4 : cdT (TN.length : Int) Z) (hA : TYc ar (TN.length : Int) (S.2.1.length : Int) (S.1.length : Int) P T k s a2.toInt A)
    (hR : ∀ (x y : Int32) (u' : zS), CFe P T k s u' → (∀ c q, ¬ (c = 75 ∧ q = 3) → u'.1 c q = s.1 c q) → u'.2 (P + 34) = s.2 (P + 34) → y.toInt = exK K L W ar kd TN Ls S A (eta (argT ar (co :: O')) Ys) Z → 0 ≤ y.toInt ∧ y.toInt ≤ 9 → R x y u') :
    Zt (d + 11) (wd P 86) 86 [.ref 75, .ref 76, .int a3, .int a4, .int a5] s (fun v5 s6 => v5 = none ∧ (∀ x7 : Int32, (-2147483648 ≤ a1.toInt + a7.toInt ∧ a1.toInt + a7.toInt ≤ 2147483647 → x7.toInt = a1.toInt + a7.toInt) → Zt (d + 11) (wd P 87) 87 [.ref 75, .int (zg s6 (P + 30) (x7 * 5 + 3)), .ref 76] s6 (fun v9 s10 => ∃ x11, v9 = some (.int x11) ∧ ((0 ≤ x11.toInt → Zt (d + 11) (wd P 88) 88 [.ref 75, .int a2, .int x11] s10 (fun v12 s13 => ∃ x14, v12 = some (.int x14) ∧ R x11 x14 s13)) ∧ (¬ (0 ≤ x11.toInt) → R x11 9 s10))))) := by
  obtain ⟨ha, h24⟩ := PR_ar h
  have hc6 := ar_le6 h (c := co) (hO.2.2.2.2 co List.mem_cons_self).1 (hO.2.2.2.1.2 co List.mem_cons_self)
  obtain ⟨ap1, ap2⟩ := argT_P ha hO.2.2.1 hO.2.2.2.2 hO.2.2.2.1.2
  have hη : pOK ar (TN.length : Int) (S.2.1.length : Int) (S.1.length : Int) (eta (argT ar (co :: O')) Ys) Z := pOK_eta (by omega) ap1 (fun y hy => ⟨(hY.2.2.2 y hy).1, (hY.2.2.2 y hy).2.2, (hY.2.2.2 y hy).2.1.2⟩) hZ3
  refine Zt.imp (Zt.mo (d := 10) (by omega) (t_86 (d := 0) hP h I.1 (T := T) ⟨by omega, by omega⟩ hk hO hY h5)) ?_
  rintro v5 s6 ⟨rfl, f1, f2, f3⟩
  have F6 : CFe P T k s s6 := CFe_en hP f1 f2
  have es : slc s6 P sl 3 = slc s P sl 3 := by
    unfold slc
    rw [CFe_r F6 (by decide) hP]
  refine ⟨rfl, fun x7 hx7 => ?_⟩
  have e7 := hx7 (by omega)
  have ez : (zg s6 (P + 30) (x7 * 5 + 3)).toInt = slc s P sl 3 := by
    rw [zg_sl (s := s6) (P := P) (a1 := x7) (c := 3) (k := 3) (by decide) (by decide) (by omega), e7, hi1, es]
  obtain ⟨y0, hy0⟩ : ∃ y0, zg s6 (P + 30) (x7 * 5 + 3) = y0 := ⟨_, rfl⟩
  rw [hy0] at ez ⊢
  have I6 := CIn_e hP hT0 hT.1 hk0 F6 I
  refine Zt.imp (Zt.mo (d := 9) (by omega) (t_87 (d := 0) (k := k0) (nX := (S.2.1.length : Int)) (nY := (S.1.length : Int)) hP h I6.1.1.1.2.2.2 (by rw [f1]; exact ht) ⟨by omega, by omega⟩ f3 hη hZ1 hZ2 hZ3 hZ4 (by rw [ez]; exact ⟨hZ0, hZk⟩) (by omega) (by rw [ez]; exact CFe_wd F6 (by omega) (Or.inr ⟨hZ0, by omega⟩) hZw))) ?_
  rintro v9 s10 ⟨g1, x11, rfl, g2⟩
  have F10 : CFe P T k s s10 := CFe_tr F6 (CFe_pf g1) (Int.le_refl _) (Int.le_refl _)
  have hf10 : ∀ c q, ¬ (c = 75 ∧ q = 3) → s10.1 c q = s.1 c q := fun c q hq => by rw [g1.2.2 c q hq, f1]
  have c10 : s10.2 (P + 34) = s.2 (P + 34) := by rw [g1.1 _ (by omega), f2 _ (by omega)]
  refine ⟨x11, rfl, fun w => ?_, fun w => ?_⟩
  · rcases g2 with ⟨-, q⟩ | ⟨g2, T', t1, t2, t3, t4, -⟩
    · omega
    · have I10 := CIn_e hP hT0 hT.1 hk0 F10 I
      have hA10 := TYc_e F10 hA t2 (Int.le_refl _)
      refine Zt.imp (t_88 (k := k) hP h I10 t1 ⟨by omega, by omega⟩ hk hA10 (TYc_e CFe_rf t4 (Int.le_refl _) hk0)) ?_
      rintro v12 s13 ⟨m1, x14, rfl, m2, m3⟩
      refine ⟨x14, rfl, hR x11 x14 s13 (CFe_tr F10 (CFe_mf hP m1) t2 (Int.le_refl _)) (fun c q hq => by rw [m1.1, hf10 c q hq]) (by rw [m1.2.1 _ (by omega) (by omega) (by omega), c10]) ?_ m3⟩
      unfold exK
      rw [if_neg (by omega)]
      exact m2
  · rcases g2 with ⟨g2, -⟩ | ⟨-, T', -, -, -, t4, -⟩
    · refine hR x11 9 s10 F10 hf10 c10 ?_ (by decide)
      unfold exK
      rw [if_pos g2]
      decide
    · exact absurd t4.1.1 w
end ZZPT
