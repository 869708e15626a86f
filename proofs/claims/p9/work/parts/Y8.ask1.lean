/-! ===== the class: lookAtBounds, one arg ===== -/
section YA1
variable {ar K kd : Int → Int} {cf : Nat → Int} {P d F H i : Nat} {s : zS} {a4 a5 a7 a8 : Int32} {D' A' O' Bd : List Int} {X Bs : List (List Int)} {t n b cd ca co : Int} {TN : List Int} {hd : Nat → Nat × Nat × List (List Int)}
set_option maxHeartbeats 4000000 in
/-- fill, put, meets for arg i of the TYPE cd :: D' at a4; R goes on with the kind -/
theorem lb_1 {R : Int32 → Int32 → Int32 → zS → Prop} (hP : P = 3 ∨ P = 39) (h6 : ∀ c, 0 ≤ ar c ∧ ar c ≤ 7) (h24 : ∀ c, 24 ≤ c → ar c = 0) (hL : LKz ar K kd cf F H hd n TN P s) (hF6 : F ≤ 60) (hH : H ≤ 4000) (ht : (s.1 75 3).toInt = t) (ht2 : 18 ≤ t ∧ t + 180 ≤ 18738)
    (hDr : isR ar 1 (cd :: D')) (hDl : (cd :: D').length ≤ 60) (hDw : WDz P s a4.toInt (cd :: D')) (h4 : 18738 ≤ a4.toInt ∧ a4.toInt ≤ 82938) (hDc : ∀ c ∈ D', 0 ≤ c ∧ c < 36) (h5 : a5.toInt = cd) (hcd : 0 ≤ cd ∧ cd ≤ 100) (hX : argT ar (cd :: D') = X) (h8 : a8.toInt = (i : Int)) (hXi : X[i]? = some (ca :: A')) (h7 : 18738 ≤ a7.toInt ∧ a7.toInt ≤ 82938) (hAw : WDz P s a7.toInt (ca :: A'))
    (hb : tyc s P cd 2 = b) (hb2 : 0 ≤ b ∧ b ≤ 4000) (hBs : SSz ar P s b Bs) (hBi : Bs[i]? = some Bd)
    (q4 : 24 ≤ ca → ca < 30 → (0 ≤ (s.1 75 4).toInt ∧ (s.1 75 4).toInt ≤ 100) ∧ 0 ≤ tyc s P (s.1 75 4).toInt 2 ∧ tyc s P (s.1 75 4).toInt 2 ≤ 4000) (q5 : 30 ≤ ca → (0 ≤ (s.1 75 6).toInt ∧ (s.1 75 6).toInt ≤ 4000) ∧ 0 ≤ sgc s P (s.1 75 6).toInt 2 ∧ sgc s P (s.1 75 6).toInt 2 ≤ 4000)
    (hO : (ca < 24 ∧ co :: O' = ca :: A') ∨ (24 ≤ ca ∧ ∃ x : Int, x = (if ca < 30 then slc s P (tyc s P (s.1 75 4).toInt 2 + (ca - 24)) 3 else slc s P (sgc s P (s.1 75 6).toInt 2 + (ca - 30)) 3) ∧ 18738 ≤ x ∧ x ≤ 82938 ∧ WDz P s x (co :: O') ∧ isR ar 1 (co :: O') ∧ (co :: O').length ≤ 60)) (hco : 0 ≤ co ∧ co ≤ 100)
    (hR : ∀ (b1 x8 x11 : Int32) (u : zS), RFz P t s u → (∀ b q, ¬ (b = 75 ∧ q = 3) → u.1 b q = s.1 b q) → x11.toInt = (if 60 < (sbs (eta X []) Bd).length then 9 else mtV ar kd (fun c x => sgO cf F kd P s c x) (fun h => sgc s P (h : Int) 1) hd (fun c => (tyc s P c 3).toNat) (fun c => (tyc s P c 4).toNat) (ca :: A') (co :: O') (sbs (eta X []) Bd)) → R b1 x8 x11 u) :
    Zt (d + 11) (wd P 86) 86 [.ref 75, .ref 76, .int a4, .int 0, .int 0] s (fun v1 s2 => v1 = none ∧ (∀ x4 : Int32, (-2147483648 ≤ (zg s2 (P + 24) (a5 * 6 + 2)).toInt + a8.toInt ∧ (zg s2 (P + 24) (a5 * 6 + 2)).toInt + a8.toInt ≤ 2147483647 → x4.toInt = (zg s2 (P + 24) (a5 * 6 + 2)).toInt + a8.toInt) → Zt (d + 11) (wd P 87) 87 [.ref 75, .int (zg s2 (P + 30) (x4 * 5 + 3)), .ref 76] s2 (fun v6 s7 => ∃ x8, v6 = some (.int x8) ∧ ((0 ≤ x8.toInt → Zt (d + 11) (wd P 88) 88 [.ref 75, .int a7, .int x8] s7 (fun v9 s10 => ∃ x11, v9 = some (.int x11) ∧ R (zg s2 (P + 30) (x4 * 5 + 3)) x8 x11 s10)) ∧ (¬ (0 ≤ x8.toInt) → R (zg s2 (P + 30) (x4 * 5 + 3)) x8 9 s7))))) := by
  obtain ⟨l1, l2, l3, l4, l5, l6, l7, l8⟩ := id hL
  obtain ⟨p1, p2, p3⟩ := argT_ok h6 hDr
  rw [hX] at p1 p2 p3
  have hcd6 := h6 cd
  have lD : (cd :: D').length = D'.length + 1 := rfl
  have wD : KI (s.2 (P + 18)) a4.toInt = cd := by
    have := hDw 0 cd rfl
    rw [show a4.toInt + ((0 : Nat) : Int) = a4.toInt by omega] at this
    exact this
  have hw1 : WDz P s (a4.toInt + 1) D' := fun j c hj => by
    have := hDw (j + 1) c hj
    rw [show a4.toInt + ((j + 1 : Nat) : Int) = a4.toInt + 1 + (j : Int) by omega] at this
    exact this
  have mX : (ca :: A') ∈ X := List.mem_of_getElem? hXi
  have rA : isR ar 1 (ca :: A') := p2 _ mX
  have cX : ∀ x ∈ X, ∀ c ∈ x, 0 ≤ c ∧ c < 36 := fun x hx c hc => hDc c (by
    rw [← p1]
    exact List.mem_flatten.mpr ⟨x, hx, hc⟩)
  have cA := cX _ mX ca List.mem_cons_self
  have lA : (ca :: A').length ≤ 60 := by
    have k1 := fl_take hXi
    have k2 := fl_le X (i + 1)
    rw [p1] at k2
    omega
  have hiX : i < X.length := (List.getElem?_eq_some_iff.mp hXi).1
  have hP18 : ¬ P + 18 = 76 ∧ ¬ P + 24 = 76 ∧ ¬ P + 30 = 76 ∧ ¬ P + 22 = 76 ∧ ¬ (76 : Nat) = P + 18 ∧ ¬ P = 75 ∧ ¬ P + 24 = 75 := by rcases hP with rfl | rfl <;> decide
  refine Zt.imp (Zt.mo (d := 10) (by omega) (zs_86 (d := 0) (e := 76) (ar := ar) (t := t) (X := X) (Y := []) hP (Or.inl rfl) l1 h6 h24 l2 (by omega) (fun q => absurd rfl q) (by rw [wD]; exact p3.symm) p2 (by rw [p1]; exact hw1) ⟨by rw [p1]; omega, by omega⟩ (by decide) (fun x hx => absurd hx List.not_mem_nil) (fun j c hj => absurd hj (by intro q; cases q)) ⟨Nat.zero_le _, Nat.zero_le _⟩ ht2.1 (by rw [p1]; exact Or.inr (by omega)) (fun q => absurd rfl q))) ?_
  rintro v1 s2 ⟨rfl, f1, f2, f3⟩
  refine ⟨rfl, fun x4 hx4 => ?_⟩
  have R2 : RFz P t s s2 := ⟨fun r _ h2 _ _ => f2 r h2, fun j _ => by rw [f2 _ hP18.1]⟩
  have e5 : (zg s2 (P + 24) (a5 * 6 + 2)).toInt = b := by
    rw [zg_ty (s := s2) (P := P) (a1 := a5) (c := 2) (k := 2) (by decide) (by decide) (by omega), h5, ← hb]
    unfold tyc
    rw [f2 _ hP18.2.1]
  rw [e5] at hx4
  have ex4 := hx4 (by omega)
  obtain ⟨b1, b2, b3, b4, b5⟩ := SSz_rf hP R2 hBs i Bd hBi
  have es : (zg s2 (P + 30) (x4 * 5 + 3)).toInt = slc s2 P (b + (i : Int)) 3 := by
    rw [zg_sl (s := s2) (P := P) (a1 := x4) (c := 3) (k := 3) (by decide) (by decide) (by omega), ex4, h8]
  obtain ⟨y0, hy0⟩ : ∃ y0, zg s2 (P + 30) (x4 * 5 + 3) = y0 := ⟨_, rfl⟩
  rw [hy0] at es ⊢
  have ηR : ∀ p, isR ar 1 (eta X [] p) := fun p => eta_R h24 p2 (fun x hx => absurd hx List.not_mem_nil) p
  refine Zt.imp (Zt.mo (d := 9) (by omega) (zs_87 (d := 0) (A := Bd) (ar := ar) (t := t) (η := eta X []) hP (Or.inl rfl) (by rw [f2 _ hP18.2.2.2.1]; exact l1) h6 (by rw [f1]; exact ht) (by omega) f3 b3 b4 b5 (by omega) (by rw [es]; exact b2) (Or.inr (by omega)))) ?_
  rintro v6 s7 ⟨k1, x8, rfl, k2⟩
  have R7 : RFz P t s s7 := ⟨fun r h1 h2 h3 h4 => by rw [k1.1 r h1]; exact f2 r h2, fun j hj => by rw [k1.2.1 j hj, f2 _ hP18.1]⟩
  have F7 : ∀ b q, ¬ (b = 75 ∧ q = 3) → s7.1 b q = s.1 b q := fun b q hq => by rw [k1.2.2 b q hq, f1]
  refine ⟨x8, rfl, fun y8 => ?_, fun y8 => ?_⟩
  · obtain ⟨k3, k4, k5⟩ : (sbs (eta X []) Bd).length ≤ 60 ∧ WDz P s7 x8.toInt (sbs (eta X []) Bd) ∧ ((x8 = y0 ∧ s7.1 = s2.1 ∧ (∀ c ∈ Bd, c < 24)) ∨ (x8.toInt = t ∧ (s7.1 75 3).toInt = t + ((sbs (eta X []) Bd).length : Int))) := by
      rcases k2 with ⟨-, q, -⟩ | q
      · omega
      · exact q
    have rB : isR ar 1 (sbs (eta X []) Bd) := sbs_R Bd 1 b3 (fun c _ hc24 => ⟨h24 c hc24, ηR _⟩)
    have cB : ∀ c ∈ sbs (eta X []) Bd, 0 ≤ c ∧ c < 36 := sbs_cd (fun p hp => eta_cd cX hp) b5
    obtain ⟨T7, hT7⟩ : ∃ T7, (s7.1 75 3).toInt = T7 := ⟨_, rfl⟩
    have hTt : t ≤ T7 ∧ T7 ≤ t + 60 := by
      rcases k5 with ⟨-, q, -⟩ | ⟨-, q⟩
      · rw [q, f1, ht] at hT7
        omega
      · omega
    have ap8 : APt T7 x8.toInt (sbs (eta X []) Bd).length ∧ 0 ≤ x8.toInt ∧ x8.toInt ≤ 82938 := by
      rcases k5 with ⟨q, -, -⟩ | ⟨q1, q2⟩
      · rw [q, es]
        exact ⟨Or.inr b1.1, by omega, by omega⟩
      · exact ⟨Or.inl (by omega), by omega, by omega⟩
    have hR' := hR y0 x8
    rw [if_neg (by omega)] at hR'
    clear hR
    generalize hB : sbs (eta X []) Bd = B at rB cB k3 k4 ap8 hR'
    cases B with
    | nil => exact absurd rfl (isR_ne rB)
    | cons cb B' =>
      obtain ⟨m1, m2, m3, m4, m5, m6, m7, m8⟩ := LKz_rf hP ht2.1 R7 (F7 _ _ (fun q => hP18.2.2.2.2.2.2 q.1)) hL
      obtain ⟨⟨r24, r26, r28⟩, r22, r30, -, -⟩ := RFz_r hP R7
      have s4 : s7.1 75 4 = s.1 75 4 := F7 _ _ (by decide)
      have s6 : s7.1 75 6 = s.1 75 6 := F7 _ _ (by decide)
      have ety : ∀ c k, tyc s7 P c k = tyc s P c k := fun c k => by
        unfold tyc
        rw [r24]
      have esg : ∀ c k, sgc s7 P c k = sgc s P c k := fun c k => by
        unfold sgc
        rw [r28]
      have esl : ∀ c k, slc s7 P c k = slc s P c k := fun c k => by
        unfold slc
        rw [r30]
      have hO7 : (ca < 24 ∧ co :: O' = ca :: A') ∨ (24 ≤ ca ∧ ∃ x : Int, x = (if ca < 30 then slc s7 P (tyc s7 P (s7.1 75 4).toInt 2 + (ca - 24)) 3 else slc s7 P (sgc s7 P (s7.1 75 6).toInt 2 + (ca - 30)) 3) ∧ 18738 ≤ x ∧ x ≤ 82938 ∧ WDz P s7 x (co :: O') ∧ isR ar 1 (co :: O') ∧ (co :: O').length ≤ 60) := by
        rcases hO with q | ⟨z1, x, z2, z3, z4, z5, z6, z7⟩
        · exact Or.inl q
        · refine Or.inr ⟨z1, x, ?_, z3, z4, RFz_wd R7 (by omega) (Or.inr z3) z5, z6, z7⟩
          rw [z2, s4, s6, ety, esg, esl, esl]
      refine Zt.imp (Zt.mo (d := 11) (by omega) (zs_88 (d := 0) (ar := ar) (t := T7) (ca := ca) (A' := A') (cb := cb) (B' := B') (co := co) (O' := O') (hd := hd) (H := H) hP m1 h6 h24 hT7 (by omega) m2 m3 m4 m5 hF6 hH m6 m7 m8 rA lA cA (by omega) (RFz_wd R7 (by omega) (Or.inr h7.1) hAw) (Or.inr h7.1) rB k3 (cB cb List.mem_cons_self) ap8.2 k4 ap8.1 (by rw [s4, ety]; exact q4) (by rw [s6, esg]; exact q5) hO7 hco)) ?_
      rintro v9 s10 ⟨w1, x11, rfl, hr⟩
      refine ⟨x11, rfl, hR' x11 s10 ⟨fun r h1 h2 h3 h4 => by rw [w1.2.1 r h1 h3 h4]; exact R7.1 r h1 h2 h3 h4, fun j hj => ?_⟩ (fun b q hq => by rw [w1.1]; exact F7 b q hq) ?_⟩
      · rw [w1.2.2 j (by
          rcases hj with z | z
          · exact Or.inl (by have := hTt.1; omega)
          · exact Or.inr z)]
        exact R7.2 j hj
      · have eso : sgO cf F kd P s7 co = fun x => sgO cf F kd P s co x := funext fun x => sgO_r r24 r26 r28
        rw [hr, eso, ety, ety]
        have ehw : (fun h : Nat => sgc s7 P (h : Int) 1) = fun h : Nat => sgc s P (h : Int) 1 := funext fun h => esg _ _
        rw [ehw]
        rfl
  · refine hR y0 x8 9 s7 R7 F7 ?_
    have hg : 60 < (sbs (eta X []) Bd).length := by
      rcases k2 with ⟨q, -, -⟩ | ⟨-, -, q⟩
      · exact q
      · rcases q with ⟨q, -, -⟩ | ⟨q, -⟩
        · rw [q, es] at y8
          exact absurd (by omega) y8
        · exact absurd (by omega) y8
    rw [if_pos hg]
    decide
end YA1
