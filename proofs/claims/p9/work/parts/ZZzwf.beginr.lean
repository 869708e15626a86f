/-! ===== behind the constructors: nothing is loaded ===== -/
def lpB (h : xH) : Bool := ((match fld h 0 9 with
  | some (.ref a) => (match fld h 0 10 with
    | some (.ref b) => (Nat.beq a 3 && Nat.beq b 39) || (Nat.beq a 39 && Nat.beq b 3)
    | _ => false)
  | _ => false) && (i0B h 0 12 && i0B h 105 11)) && (((i0B h 105 10 && i0B h 213 95) && (i0B h 213 29 && (zeB h 233 1 && zeB h 252 1))) && ((match fld h 105 13 with
  | some (.int x) => !(decide (x.toInt = 1))
  | _ => false) && (i0B h 213 93 && (match fld h 213 92 with
  | some (.int x) => decide (x = -1)
  | _ => false))))
/-- nothing is out, nothing ran -/
def lpE (h : xH) : Bool := (i0B h 207 2 && i0B h 213 120) && ((match fld h 105 13 with
  | some (.int x) => !(decide (x.toInt = 0))
  | _ => false) && (match fld h 213 91 with
  | some (.int x) => !(decide (x.toInt = 0))
  | _ => false))
/-- nothing is made -/
def lpM (h : xH) : Bool := ((i0B h 197 8 && i0B h 197 9) && i0B h 213 110) && (match fld h 213 109 with
  | some (.int x) => decide (x = -1)
  | _ => false)
theorem xe_14 : lpM xh2 = true := by decide +kernel
theorem xe_13 : lpE xh2 = true := by decide +kernel
theorem xe_12 : lpB xh2 = true := by decide +kernel
theorem LPr_N : LPr hN (sOf xh2) := by
  obtain ⟨-, -, ⟨-, -, f94, -, -, f90⟩, -⟩ := refB_ok xe_8
  have hI := LSt_N.1
  have fl : ∀ a k, a < 213 → fld hN a k = fld xh2 a k := fun a k ha => by
    unfold fld
    rw [hN_lo ha]
  have hb := xe_12
  unfold lpB at hb
  rw [Bool.and_eq_true, Bool.and_eq_true, Bool.and_eq_true, Bool.and_eq_true, Bool.and_eq_true, Bool.and_eq_true, Bool.and_eq_true, Bool.and_eq_true, Bool.and_eq_true, Bool.and_eq_true] at hb
  obtain ⟨⟨b1, b2, b3⟩, ⟨⟨d1, d2⟩, d3, d4, d5⟩, b4, b5, b6⟩ := hb
  have z := zst_ok hI
  have z12 : (zst hN).1 0 12 = 0 := by
    have e := z.1 0 12 (by decide +kernel)
    rw [fl 0 12 (by decide), i0B_ok b2] at e
    exact (Value.int.inj (Option.some.inj e)).symm
  have z11 : (zst hN).1 0 11 = 0 := by
    have e := z.1 0 11 (by decide +kernel)
    have hx := xe_11
    unfold exBx at hx
    rw [Bool.and_eq_true, Bool.and_eq_true] at hx
    rw [fl 0 11 (by decide), i0B_ok hx.1.2] at e
    exact (Value.int.inj (Option.some.inj e)).symm
  have r11 : (zst hN).1 105 11 = 0 := by
    have e := z.1 105 11 (by decide +kernel)
    rw [fl 105 11 (by decide), i0B_ok b3] at e
    exact (Value.int.inj (Option.some.inj e)).symm
  have r10 : (zst hN).1 105 10 = 0 := by
    have e := z.1 105 10 (by decide +kernel)
    rw [fl 105 10 (by decide), i0B_ok d1] at e
    exact (Value.int.inj (Option.some.inj e)).symm
  have r13 : ¬ ((zst hN).1 105 13).toInt = 1 := by
    have e := z.1 105 13 (by decide +kernel)
    rw [fl 105 13 (by decide)] at e
    rw [e] at b4
    intro w
    simp [w] at b4
  have s92 : (sOf xh2).1 92 = -1 := by
    cases hq : fld xh2 213 92 with
    | none =>
      rw [hq] at b6
      cases b6
    | some q =>
      rw [hq] at b6
      cases q with
      | int x =>
        rw [sOf_1 hq]
        exact of_decide_eq_true b6
      | _ => cases b6
  have g94 := sOf_1 (i0B_ok f94)
  have g90 := sOf_1 (i0B_ok f90)
  have g93 := sOf_1 (i0B_ok b5)
  have g95 := sOf_1 (i0B_ok d2)
  have hr : ∃ C S : Nat, ((C = 3 ∧ S = 39) ∨ (C = 39 ∧ S = 3)) ∧ fld xh2 0 9 = some (.ref C) ∧ fld xh2 0 10 = some (.ref S) := by
    cases hq : fld xh2 0 9 with
    | none =>
      rw [hq] at b1
      cases b1
    | some q =>
      rw [hq] at b1
      cases q with
      | ref a =>
        cases hq2 : fld xh2 0 10 with
        | none =>
          rw [hq2] at b1
          cases b1
        | some q2 =>
          rw [hq2] at b1
          cases q2 with
          | ref b =>
            refine ⟨a, b, ?_, rfl, rfl⟩
            have b1 : ((Nat.beq a 3 && Nat.beq b 39) || (Nat.beq a 39 && Nat.beq b 3)) = true := b1
            rw [Bool.or_eq_true, Bool.and_eq_true, Bool.and_eq_true] at b1
            rcases b1 with ⟨w1, w2⟩ | ⟨w1, w2⟩
            · exact Or.inl ⟨Nat.eq_of_beq_eq_true w1, Nat.eq_of_beq_eq_true w2⟩
            · exact Or.inr ⟨Nat.eq_of_beq_eq_true w1, Nat.eq_of_beq_eq_true w2⟩
          | _ => cases b1
      | _ => cases b1
  obtain ⟨C, S, c1, c2, c3⟩ := hr
  have hE := xe_13
  unfold lpE at hE
  rw [Bool.and_eq_true, Bool.and_eq_true, Bool.and_eq_true] at hE
  obtain ⟨⟨e1, e2⟩, e3, e4⟩ := hE
  have z207 : (zst hN).1 207 2 = 0 := by
    have e := z.1 207 2 (by decide +kernel)
    rw [fl 207 2 (by decide), i0B_ok e1] at e
    exact (Value.int.inj (Option.some.inj e)).symm
  have g120 := sOf_1 (i0B_ok e2)
  have r0 : ¬ ((zst hN).1 105 13).toInt = 0 := by
    have e := z.1 105 13 (by decide +kernel)
    rw [fl 105 13 (by decide)] at e
    rw [e] at e3
    intro w
    simp [w] at e3
  have s91 : ¬ ((sOf xh2).1 91).toInt = 0 := by
    cases hq : fld xh2 213 91 with
    | none =>
      rw [hq] at e4
      cases e4
    | some q =>
      rw [hq] at e4
      cases q with
      | int x =>
        rw [sOf_1 hq]
        intro w
        simp [w] at e4
      | _ => cases e4
  have hM := xe_14
  unfold lpM at hM
  rw [Bool.and_eq_true, Bool.and_eq_true, Bool.and_eq_true] at hM
  obtain ⟨⟨⟨u1, u2⟩, u3⟩, u4⟩ := hM
  have z8 : (zst hN).1 197 8 = 0 := by
    have e := z.1 197 8 (by decide +kernel)
    rw [fl 197 8 (by decide), i0B_ok u1] at e
    exact (Value.int.inj (Option.some.inj e)).symm
  have z9 : (zst hN).1 197 9 = 0 := by
    have e := z.1 197 9 (by decide +kernel)
    rw [fl 197 9 (by decide), i0B_ok u2] at e
    exact (Value.int.inj (Option.some.inj e)).symm
  have g110 := sOf_1 (i0B_ok u3)
  have s109 : (sOf xh2).1 109 = -1 := by
    cases hq : fld xh2 213 109 with
    | none =>
      rw [hq] at u4
      cases u4
    | some q =>
      rw [hq] at u4
      cases q with
      | int x =>
        rw [sOf_1 hq]
        exact of_decide_eq_true u4
      | _ => cases u4
  have hMK : MKl (zst hN) (sOf xh2) := Or.inl ⟨⟨by rw [z8]; decide, by rw [g110]; decide⟩, by rw [z9]; decide, by rw [s109]; decide⟩
  refine ⟨zst hN, C, S, z, c1, (fl 0 9 (by decide)).trans c2, (fl 0 10 (by decide)).trans c3, ?_, ⟨⟨[], ⟨by rw [z207]; rfl, by decide, fun i x hx => by cases hx⟩, ⟨by rw [g120]; rfl, by decide, fun i x hx => by cases hx⟩⟩, ⟨fun w => absurd w r0, fun w => absurd w s91⟩, fun _ => s91, fun w => ?_⟩, hMK⟩
  rotate_left
  · rw [g90] at w
    exact absurd (by decide) w
  refine ⟨⟨?_, ?_, ⟨?_, ?_, ?_⟩, fun _ => ⟨?_, ?_⟩⟩, fun w => ?_⟩
  · rw [z12, g94]
  · rw [z11, g90]
  · rw [r11, g93, r10, g95]
    exact ⟨rfl, rfl⟩
  · exact fun w => absurd w r13
  · exact fun _ => s92
  · rw [zeB_ok d4]
    decide
  · rw [zeB_ok d5]
    decide
  · rw [g90] at w
    exact absurd (by decide) w
theorem LSr_N : LSr hN (sOf xh2) := ⟨LSt_N, LPr_N⟩
