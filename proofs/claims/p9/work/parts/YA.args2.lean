/-! ===== the class: lookAtBounds, the args of one TYPE, whole ===== -/
section YAH
variable {ar K L kd : Int → Int} {cf : Nat → Int} {P d F H p : Nat} {s : zS} {a1 a2 a3 a4 a5 a6 a7 : Int32} {D' : List Int} {X : List (List Int)} {t n b cd : Int} {TN : List Int} {hd : Nat → Nat × Nat × List (List Int)} {Bf : Int → List (List Int)} {bn : Int → List Int} {tok : Nat → Int}
set_option maxHeartbeats 4000000 in
theorem lb_44 {R2 : Int32 → Int32 → Int32 → zS → Prop} {R7 : Int32 → Int32 → Int32 → Int32 → zS → Prop} {Q : Option Value → zS → Prop} (hP : P = 3 ∨ P = 39) (h6 : ∀ c, 0 ≤ ar c ∧ ar c ≤ 7) (h24 : ∀ c, 24 ≤ c → ar c = 0) (hL : LKz ar K kd cf F H hd n TN P s) (hF6 : F ≤ 60) (hH : H ≤ 4000) (ht : (s.1 75 3).toInt = t) (ht2 : 18 ≤ t ∧ t + 180 ≤ 18738) (hf : (s.1 P 14).toInt = 0)
    (hDr : isR ar 1 (cd :: D')) (hDl : (cd :: D').length ≤ 60) (hDw : WDz P s a4.toInt (cd :: D')) (h4 : 18738 ≤ a4.toInt ∧ a4.toInt + 61 ≤ 82938) (hDc : ∀ c ∈ D', 0 ≤ c ∧ c < 36) (h5 : a5.toInt = cd) (hcd : 0 ≤ cd ∧ cd ≤ 100) (hX : argT ar (cd :: D') = X) (ha6 : ¬ a6.toInt = 0) (h7 : a7.toInt = a4.toInt + 1)
    (hb : tyc s P cd 2 = b) (hb2 : 0 ≤ b ∧ b ≤ 4000) (hBs : SSz ar P s b (Bf cd)) (hBl : (Bf cd).length = X.length) (hSp : SPz ar P s bn D')
    (hLp : KI (s.2 (P + 6)) = L) (htk : ∀ j : Nat, j < D'.length → tok (p + 1 + j) = L (KI (s.2 (P + 20)) (a4.toInt + 1 + (j : Int) - 18738)) ∧ 0 ≤ tok (p + 1 + j) ∧ tok (p + 1 + j) ≤ 5000)
    (hfin : ∀ (x1 : Int32) (u : zS), x1.toInt = a4.toInt - 1 → RFz P t s u → (∀ b q, ¬ (b = P ∧ q = 14) → u.1 b q = s.1 b q) → (u.1 P 14).toInt = ffs (bdGs (mvS ar kd cf F hd P s) Bf bn tok cd X p) → R7 a1 a2 a3 x1 u) :
    vl_135_44 (fun j => Zt (d + 3 + 8) (wd P j) j) P R2 R7 a1 a2 a3 a4 a5 a6 a7 0 s Q := by
  obtain ⟨p1, p2, p3⟩ := argT_ok h6 hDr
  rw [hX] at p1 p2 p3
  have hcd6 := h6 cd
  have lD : (cd :: D').length = D'.length + 1 := rfl
  have hP75 : ¬ P = 75 ∧ ¬ P + 24 = P := by rcases hP with rfl | rfl <;> decide
  refine ⟨fun c1 c2 c3 c4 c5 c6 c7 c8 u => c1 = a1 ∧ c2 = a2 ∧ c3 = a3 ∧ c4 = a4 ∧ c5 = a5 ∧ c6 = a6 ∧ RFz P t s u ∧ (∀ b q, ¬ (b = P ∧ q = 14) → u.1 b q = s.1 b q) ∧ ∃ i : Nat, i ≤ X.length ∧ c8.toInt = (i : Int) ∧ c7.toInt = a4.toInt + 1 + ((X.take i).flatten.length : Int) ∧ (u.1 P 14).toInt = ffs ((bdGs (mvS ar kd cf F hd P s) Bf bn tok cd X p).take i), fun _ _ _ _ _ _ _ c8 _ => (100 - c8.toInt).toNat, ⟨rfl, rfl, rfl, rfl, rfl, rfl, ⟨fun _ _ _ _ _ => rfl, fun _ _ => rfl⟩, fun _ _ _ => rfl, 0, Nat.zero_le _, by decide, ?_, hf⟩, ?_⟩
  · rw [List.take_zero]
    show a7.toInt = a4.toInt + 1 + ((0 : Nat) : Int)
    omega
  rintro c1 c2 c3 c4 c5 c6 c7 c8 u ⟨e1, e2, e3, e4, e5, e6, f1, f2, i, g1, g2, g3, g4⟩
  subst e1 e2 e3 e4 e5 e6
  have Lu : LKz ar K kd cf F H hd n TN P u := LKz_rf hP ht2.1 f1 (f2 _ _ (fun q => hP75.2 q.1)) hL
  have ea : (zg u (P + 22) c5).toInt = (X.length : Int) := by
    rw [zg_K, Lu.1, h5]
    exact p3.symm
  have step : ∀ R44 : Int32 → Int32 → Int32 → Int32 → Int32 → Int32 → Int32 → Int32 → zS → Prop, (∀ (x7 x9 : Int32) (w : zS), i < X.length → RFz P t s w → (∀ b q, ¬ (b = P ∧ q = 14) → w.1 b q = s.1 b q) → x9.toInt = (i : Int) + 1 → x7.toInt = c4.toInt + 1 + ((X.take (i + 1)).flatten.length : Int) → (w.1 P 14).toInt = ffs ((bdGs (mvS ar kd cf F hd P s) Bf bn tok cd X p).take (i + 1)) → R44 c1 c2 c3 c4 c5 c6 x7 x9 w) → v_135_44 (fun j => Zt (d + 3 + 8) (wd P j) j) P R2 R7 R44 c1 c2 c3 c4 c5 c6 c7 c8 u Q := by
    intro R44 hN
    unfold v_135_44
    rw [ea]
    refine ⟨fun y => absurd y ha6, fun y => ⟨fun y1 x1 hx1 => ?_, fun y1 => ?_⟩⟩
    · have ex1 := hx1 (by omega)
      refine hfin x1 u (by omega) f1 f2 ?_
      rw [g4, List.take_of_length_le (by rw [bdGs_len]; omega)]
    · have hiX : i < X.length := by omega
      obtain ⟨z, hz⟩ : ∃ z, X[i]? = some z := ⟨_, List.getElem?_eq_getElem hiX⟩
      obtain ⟨Bd, hBd⟩ : ∃ Bd, (Bf cd)[i]? = some Bd := ⟨_, List.getElem?_eq_getElem (by omega)⟩
      have k1 := fl_take hz
      have k2 := fl_le X (i + 1)
      rw [p1] at k2
      have mz : z ∈ X := List.mem_of_getElem? hz
      have rz : isR ar 1 z := p2 z mz
      have ezD : X.getD i [] = z := by
        rw [List.getD_eq_getElem?_getD, hz]
        rfl
      have eBD : (Bf cd).getD i [] = Bd := by
        rw [List.getD_eq_getElem?_getD, hBd]
        rfl
      have hw0 : WDz P s (c4.toInt + 1) X.flatten := fun j c hj => by
        rw [p1] at hj
        have := hDw (j + 1) c hj
        rw [show c4.toInt + ((j + 1 : Nat) : Int) = c4.toInt + 1 + (j : Int) by omega] at this
        exact this
      have hwz : WDz P u c7.toInt z := by
        rw [g3]
        exact RFz_wd f1 (by omega) (Or.inr (by omega)) (WDz_fl X i z _ hw0 hz)
      have czD : ∀ c ∈ z, c ∈ D' := fun c hc => by
        rw [← p1]
        exact List.mem_flatten.mpr ⟨z, mz, hc⟩
      obtain ⟨⟨r24, r26, r28⟩, r22, r30, r20, r6⟩ := RFz_r hP f1
      have u3 : u.1 75 3 = s.1 75 3 := f2 _ _ (fun q => hP75.1 q.1.symm)
      have u4 : u.1 75 4 = s.1 75 4 := f2 _ _ (fun q => hP75.1 q.1.symm)
      have u6 : u.1 75 6 = s.1 75 6 := f2 _ _ (fun q => hP75.1 q.1.symm)
      have Su := SPz_rf hP f1 u4 u6 hSp
      cases z with
      | nil => exact absurd rfl (isR_ne rz)
      | cons ca A' =>
        have zl : (ca :: A').length = A'.length + 1 := rfl
        have cca := hDc ca (czD ca List.mem_cons_self)
        obtain ⟨co, O', hOw, hco, hO⟩ : ∃ (co : Int) (O' : List Int), ownT bn (ca :: A') = co :: O' ∧ (0 ≤ co ∧ co ≤ 100) ∧ ((ca < 24 ∧ co :: O' = ca :: A') ∨ (24 ≤ ca ∧ ∃ x : Int, x = (if ca < 30 then slc u P (tyc u P (u.1 75 4).toInt 2 + (ca - 24)) 3 else slc u P (sgc u P (u.1 75 6).toInt 2 + (ca - 30)) 3) ∧ 18738 ≤ x ∧ x ≤ 82938 ∧ WDz P u x (co :: O') ∧ isR ar 1 (co :: O') ∧ (co :: O').length ≤ 60)) := by
          by_cases hc : ca < 24
          · exact ⟨ca, A', if_pos hc, by omega, Or.inl ⟨hc, rfl⟩⟩
          · obtain ⟨-, -, co, O', x, w3, w4, w5⟩ := Su ca (czD ca List.mem_cons_self) (by omega)
            refine ⟨co, O', ?_, w4, Or.inr ⟨by omega, x, w5⟩⟩
            rw [← w3]
            exact if_neg hc
        refine lb_1 (R := fun b1 x8 x11 w0 => v_135_95 (fun j => Zt (d + 3 + 8) (wd P j) j) P R2 R7 R44 c1 c2 c3 c4 c5 c6 c7 c8 (u.1 75 3) b1 x8 x11 w0 Q) (d := d) (t := t) (cd := cd) (D' := D') (X := X) (i := i) (ca := ca) (A' := A') (b := b) (Bs := Bf cd) (Bd := Bd) (co := co) (O' := O') hP h6 h24 Lu hF6 hH (by rw [u3]; exact ht) ht2 hDr hDl (RFz_wd f1 (by omega) (Or.inr (by omega)) hDw) (by omega) hDc h5 hcd hX g2 hz (by omega) hwz (by unfold tyc at hb ⊢; rw [r24]; exact hb) hb2 (SSz_rf hP f1 hBs) hBd (fun q1 q2 => (Su ca (czD ca List.mem_cons_self) q1).1 q2) (fun q1 => (Su ca (czD ca List.mem_cons_self) (by omega)).2.1 q1) hO hco ?_
        intro b1 x8 x11 w0 j1 j2 j3
        have ekd : x11.toInt = bdK (mvS ar kd cf F hd P s) Bf bn cd X i := by
          rw [j3]
          unfold bdK
          rw [ezD, eBD, hOw, ← mvS_r hP f1]
          rfl
        have hkb := bdK_b (ar := ar) (kd := kd) (cf := cf) (F := F) (hd := hd) (P := P) (s := s) (Bf := Bf) (bn := bn) (c := cd) (X := X) (i := i)
        rw [← ekd] at hkb
        obtain ⟨⟨-, -, -⟩, v22, -, v20, v6⟩ := RFz_r hP j1
        obtain ⟨t1, t2, t3⟩ := htk (X.take i).flatten.length (by omega)
        unfold v_135_95
        intro x1 hx1
        have ex1 := hx1 (by omega)
        have etk : KI (w0.2 (P + 6)) (zg w0 (P + 20) x1).toInt = tok (p + 1 + (X.take i).flatten.length) := by
          rw [t1, v6, r6, hLp, zg_K, v20, r20, show x1.toInt = c4.toInt + 1 + ((X.take i).flatten.length : Int) - 18738 by omega]
        have wP : w0.1 P 14 = u.1 P 14 := j2 _ _ (fun q => hP75.1 q.1)
        refine Zt.imp (Zt.mo (d := 9) (by omega) (zs_38b (d := 0) hP (by rw [etk]; omega) (by omega))) ?_
        rintro v2 s3 ⟨rfl, hs3⟩
        refine ⟨rfl, fun s4 hs4 => ?_⟩
        rw [etk, wP, g4] at hs3
        have e32 : s3.2 = w0.2 := by
          rcases hs3 with ⟨-, -, x, -, q⟩ | ⟨-, q⟩ <;> rw [q]
          rfl
        have e31 : ∀ b q, ¬ (b = P ∧ q = 14) → s3.1 b q = w0.1 b q := fun b q hq => by
          rcases hs3 with ⟨-, -, x, -, z⟩ | ⟨-, z⟩
          · rw [z, zf_1, if_neg hq]
          · rw [z]
        have e42 : s4.2 = w0.2 := by rw [hs4, zf_2, e32]
        have R4 : RFz P t u s4 := by
          unfold RFz
          rw [e42]
          exact j1
        have R4s := RFz_tr f1 R4
        have F4 : ∀ b q, ¬ (b = P ∧ q = 14) → s4.1 b q = s.1 b q := fun b q hq => by
          rw [hs4, zf_1]
          by_cases z : b = 75 ∧ q = 3
          · rw [if_pos z, z.1, z.2, u3]
          · rw [if_neg z, e31 b q hq, j2 b q z, f2 b q hq]
        refine Zt.imp (Zt.mo (d := 9) (by omega) (zs_83 (d := 0) (A := ca :: A') (ar := ar) hP (by rw [e42, v22]; exact Lu.1) h6 rz (by omega) (by omega) (RFz_wd R4 (by omega) (Or.inr (by omega)) hwz))) ?_
        rintro v5 s6 ⟨hs6, x7, rfl, hx7⟩
        subst hs6
        refine ⟨x7, rfl, fun x9 hx9 => ?_⟩
        have ex9 := hx9 (by omega)
        refine hN x7 x9 s6 hiX R4s F4 (by omega) (by omega) ?_
        have hat := bdGs_at (mv := mvS ar kd cf F hd P s) (Bf := Bf) (bn := bn) (tok := tok) (c := cd) (X := X) (p := p) hiX
        rw [← ekd] at hat
        rw [take_s hat, ffs_s, hs4, zf_1, if_neg (fun q => hP75.1 q.1)]
        rcases hs3 with ⟨q1, q2, x, q3, q4⟩ | ⟨q1, q4⟩
        · rw [if_pos q1, if_neg q2, q4, zf_1, if_pos ⟨rfl, rfl⟩, q3]
        · rw [q4, wP, g4]
          by_cases z : ffs ((bdGs (mvS ar kd cf F hd P s) Bf bn tok cd X p).take i) = 0
          · rw [if_pos z, z]
            by_cases z2 : x11.toInt = 0
            · rw [if_pos z2]
            · exact absurd q1 (by omega)
          · rw [if_neg z]
  exact step _ (fun x7 x9 w q0 q1 q2 q3 q4 q5 => ⟨⟨rfl, rfl, rfl, rfl, rfl, rfl, q1, q2, i + 1, by omega, by omega, q4, q5⟩, by dsimp only; omega⟩)
end YAH
