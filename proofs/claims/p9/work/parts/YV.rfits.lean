/-! ===== the reference: fits ===== -/
/-- what fits and bounds leave: the fault f -/
def BNq (T e f : Int) (s : yS) (v : Option Value) (s' : yS) : Prop := v = none ∧ WFr T e s s' ∧ (s'.1 64 = s.1 64 ∧ (s'.1 70).toInt = e) ∧ (s'.1 8).toInt = f
/-- what is put for the PARAMS of Z is in order in the scope of nX and nY PARAMS -/
def pOK (ar : Int → Int) (nT nX nY : Int) (η : Nat → List Int) (Z : List Int) : Prop := ∀ c ∈ Z, 24 ≤ c → isR ar 1 (η (c - 24).toNat) ∧ cdW nX nY (η (c - 24).toNat) ∧ cdT nT (η (c - 24).toNat)
section YVF
variable {ar kd : Int → Int} {cf : Nat → Int} {fs : Nat → Nat} {F H d e e0 : Nat} {nT : Int} {tm tn : Int → Nat} {hd : Nat → Nat × Nat × List (List Int)} {hb ow hw : Nat → Int} {Bf : Int → List (List Int)} {b A T ca cb β0 β1 nX nY c0 c1 B t k : Int} {s u : yS} {a1 a2 a3 a4 a5 : Int32} {A' Z E : List Int} {bn : Int → List Int} {η : Nat → List Int} {X Y : List (List Int)} {L : Int → Int}
theorem sbs_cdW (hη : pOK ar nT nX nY η Z) {n m : Int} (hZ : cdW n m Z) : cdW nX nY (sbs η Z) := fun c hc => by
  unfold sbs at hc
  obtain ⟨c', h1, h2⟩ := List.mem_flatMap.mp hc
  have h3 := hZ c' h1
  by_cases h4 : c' < 24
  · rw [if_pos h4] at h2
    rw [List.mem_singleton.mp h2]
    exact ⟨h3.1, h3.2.1, fun w => by omega, fun w => by omega⟩
  · rw [if_neg h4] at h2
    exact (hη c' h1 (by omega)).2.1 c h2
theorem sbs_cdT (hη : pOK ar nT nX nY η Z) (hZ : cdT nT Z) : cdT nT (sbs η Z) := fun c hc => by
  unfold sbs at hc
  obtain ⟨c', h1, h2⟩ := List.mem_flatMap.mp hc
  have h3 := hZ c' h1
  by_cases h4 : c' < 24
  · rw [if_pos h4] at h2
    rw [List.mem_singleton.mp h2]
    exact h3
  · rw [if_neg h4] at h2
    exact (hη c' h1 (by omega)).2.2 c h2
theorem cvA_0 {x : Int} (h : x = 0 ∨ x = 7 ∨ x = 9) : (cvA x = 1 ↔ x = 0) ∧ (cvA x = 0 ↔ x = 7) := by
  rcases h with rfl | rfl | rfl <;> decide
theorem WFr_8 (h : R8 s u) {e1 : Int} : WFr T e1 s u := ⟨fun q w1 _ _ _ _ _ _ => h.2 q w1, by rw [h.1], fun q j _ => by rw [h.1], fun j _ => by rw [h.1], fun q j _ _ => by rw [h.1], fun q j _ _ => by rw [h.1]⟩
theorem mtV_b {so : Int → Int → Int} {A O D : List Int} : mtV ar kd so hw hd tm tn A O D = 0 ∨ mtV ar kd so hw hd tm tn A O D = 7 ∨ mtV ar kd so hw hd tm tn A O D = 9 := by
  unfold mtV
  by_cases h : kd (D.headD 0) = 2
  · rw [if_pos h]
    exact mtL_b _ _
  · rw [if_neg h]
    by_cases h2 : A = D
    · rw [if_pos h2]
      exact Or.inl rfl
    · rw [if_neg h2]
      exact Or.inr (Or.inl rfl)
set_option maxHeartbeats 2000000 in
/-- fits: ca :: A' stands at a1; the TYPE Z of node a3 is put by env a4 -/
theorem x_212 (hG : PGr ar kd cf fs F H nT tm tn hd hb ow hw Bf b A s) (hSP : SPe ar cf F H nT hd hb ow Bf β0 β1 nX nY bn) (hT : (s.1 64).toInt = T) (hA : A ≤ T) (he : (s.1 70).toInt = (e : Int)) (h8 : (s.1 8).toInt = 0) (hAe : TYe ar nT β0 β1 nX nY T s a1.toInt (ca :: A')) (h2 : a2.toInt = ((ca :: A').length : Int)) (hy : RSe s A a3.toInt E) (hE : EVr s e0 T c0 X c1 Y) (h4 : a4.toInt = (e0 : Int)) (hR : E.flatMap (rpt c0 X c1 Y) = (sbs η Z).map (rhE ar β0 β1)) (hZ : isR ar 1 Z) {n m : Int} (hZc : cdW n m Z) (hZt : cdT nT Z) (hη : pOK ar nT nX nY η Z) (h5 : a5.toInt = B + t) (hL : (s.2.1 216 (B + t).toNat).toInt = L t) (hk : k = if 60 < (sbs η Z).length then 9 else mtV ar kd (rso kd cf fs F tm tn hw) hw hd tm tn (ca :: A') (ownT bn (ca :: A')) (sbs η Z)) : Par d 212 [.ref 213, .int a1, .int a2, .int a3, .int a4, .int a5] s (BNq T (e : Int) (if k = 0 then 0 else k + 16 * L t) s) := by
  cases d with
  | zero => exact Par_0
  | succ d =>
    have hGs := hG
    obtain ⟨-, -, -, -, -, -, ha, h24⟩ := hG
    obtain ⟨y1, y2, y3, y4⟩ := hy
    have P1 := x_191 (d := d) (E := E) hT hE h4 y3 ⟨y2.1, by omega⟩ y4
    rw [hR] at P1
    refine pb_212 ?_
    unfold ub_212_0
    intro _ _
    refine Par.imp P1 ?_
    rintro v2 s1 ⟨p1, x3, rfl, hc⟩
    rw [List.length_map] at hc
    refine ⟨x3, rfl, fun w1 => ?_, fun w1 => ?_⟩
    · rcases hc with ⟨q, -⟩ | ⟨-, l1, p71, p72, p64, pk, pw⟩
      · exact absurd q w1
      rw [if_neg (by omega)] at hk
      have hRB : isR ar 1 (sbs η Z) := sbs_R Z 1 hZ (fun c hc w => ⟨h24 c w, (hη c hc w).1⟩)
      obtain ⟨cb, B', eB⟩ : ∃ cb B', sbs η Z = cb :: B' := by
        cases hbn : sbs η Z with
        | nil => exact absurd hbn (isR_ne hRB)
        | cons x l => exact ⟨x, l, rfl⟩
      have hcd := sbs_cdW hη hZc
      have hct := sbs_cdT hη hZt
      rw [eB] at hk l1 p72 p64 pw hRB hcd hct
      have W1 : WFr T (e : Int) s s1 := WFr_pk p1 pk
      have hBe : TYe ar nT β0 β1 nX nY (T + ((cb :: B').length : Int)) s1 (s1.1 71).toInt (cb :: B') := ⟨by rw [p71]; exact ⟨by have := hAe.1; omega, Int.le_refl _⟩, by rw [p71]; exact pw, hRB, ⟨l1, hct⟩, hcd⟩
      have e70 : (s1.1 70).toInt = (e : Int) := by rw [pk 70 (by decide) (by decide) (by decide)]; exact he
      refine Par.imp (x_195 (T := T + ((cb :: B').length : Int)) (PGr_w W1 hA hGs) hSP p64 (by omega) e70 (TYe_T (by omega) (TYe_w W1 hAe)) h2 hBe p72) ?_
      rintro v5 s4 ⟨o1, ⟨o2, o3, o4⟩, x6, rfl, hx6⟩
      rw [← hk] at hx6
      have hkb : k = 0 ∨ k = 7 ∨ k = 9 := by rw [hk]; exact mtV_b
      obtain ⟨v1, v0⟩ := cvA_0 hkb
      have W4 : WFr T (e : Int) s s4 := WFr_tr W1 o1 (by omega) (Int.le_refl _)
      have e8 : (s4.1 8).toInt = 0 := by rw [o2, pk 8 (by decide) (by decide) (by decide)]; exact h8
      have f40 : ∀ (u : yS) (x7 : Int32), WFr T (e : Int) s u → (u.1 70).toInt = (e : Int) → (u.1 8).toInt = (if k = 0 then 0 else k + 16 * L t) → ub_212_40 (Par d) a1 a2 a3 a4 a5 (s.1 64) x7 u (BNq T (e : Int) (if k = 0 then 0 else k + 16 * L t) s) := by
        intro u x7 q1 q2 q3
        unfold ub_212_40
        intro s1' hs1'
        refine ⟨rfl, WFr_tr q1 (by rw [hs1']; exact WFr_sf (Or.inr (Or.inl rfl))) (Int.le_refl _) (Int.le_refl _), ⟨?_, ?_⟩, ?_⟩
        · rw [hs1', sfr_1, if_pos rfl]
        · rw [hs1', sfr_1, if_neg (by decide)]
          exact q2
        · rw [hs1', sfr_1, if_neg (by decide)]
          exact q3
      have f38 : ∀ (w x7 : Int32), w.toInt = k → ¬ k = 0 → ub_212_38 (Par d) a1 a2 a3 a4 a5 (s.1 64) x7 w s4 (BNq T (e : Int) (if k = 0 then 0 else k + 16 * L t) s) := by
        intro w x7 hw0 hk0
        unfold ub_212_38
        refine Par.imp (x_163w (L := L) h5 e8 (by rw [W4.2.2.1 _ _ (by decide)]; exact hL)) ?_
        rintro v s7 ⟨rfl, r1, r2⟩
        refine ⟨rfl, f40 s7 x7 (WFr_tr W4 (WFr_8 r1) (Int.le_refl _) (Int.le_refl _)) (by rw [r1.2 70 (by decide)]; exact o4) ?_⟩
        rw [r2, if_pos rfl, hw0, if_neg hk0]
      refine ⟨x6, rfl, fun w2 => f40 s4 x6 W4 o4 ?_, fun w2 => ⟨fun w3 => f38 9 x6 ?_ ?_, fun w3 => f38 7 x6 ?_ ?_⟩⟩
      · rw [if_pos (v1.mp (by rw [← hx6]; exact w2))]
        exact e8
      · have h0 : ¬ k = 0 := fun q => w2 (by rw [hx6]; exact v1.mpr q)
        have h7 : ¬ k = 7 := fun q => w3 (by rw [hx6]; exact v0.mpr q)
        have h9 : k = 9 := by omega
        rw [h9]
        decide
      · exact fun q => w2 (by rw [hx6]; exact v1.mpr q)
      · rw [v0.mp (by rw [← hx6]; exact w3)]
        decide
      · rw [v0.mp (by rw [← hx6]; exact w3)]
        decide
    · obtain ⟨l1, ps⟩ : 60 < (sbs η Z).length ∧ s1.1 = s.1 := by
        rcases hc with ⟨-, l1, ps⟩ | ⟨q, -⟩
        · exact ⟨l1, ps⟩
        · omega
      rw [if_pos l1] at hk
      have W1 : WFr T (e : Int) s s1 := WFr_pk p1 (fun k _ _ _ => by rw [ps])
      have e8 : (s1.1 8).toInt = 0 := by
        rw [ps]
        exact h8
      refine Par.imp (x_163w (L := L) h5 e8 (by rw [W1.2.2.1 _ _ (by decide)]; exact hL)) ?_
      rintro v s7 ⟨rfl, r1, r2⟩
      refine ⟨rfl, rfl, WFr_tr W1 (WFr_8 r1) (Int.le_refl _) (Int.le_refl _), ⟨?_, ?_⟩, ?_⟩
      · rw [r1.2 64 (by decide), ps]
      · rw [r1.2 70 (by decide), ps]
        exact he
      · rw [r2, if_pos rfl, hk, if_neg (by decide)]
        rfl
end YVF
