/-! ===== the reference: findHead ===== -/
/-- the HEAD of that name of type c, -1 if there is none -/
def rso (kd : Int → Int) (cf : Nat → Int) (fs : Nat → Nat) (F : Nat) (tm tn : Int → Nat) (hw : Nat → Int) (c x : Int) : Int := if kd c = 1 then (if 0 ≤ lFw cf (fun f => hw (fs f)) c x F then (fs (lFw cf (fun f => hw (fs f)) c x F).toNat : Int) else -1) else if kd c = 2 then fsM hw x (tm c) (tn c) else -1
def FHq (kd : Int → Int) (cf : Nat → Int) (fs : Nat → Nat) (F H : Nat) (tm tn : Int → Nat) (hb ow hw : Nat → Int) (b co x : Int) (s : yS) (v : Option Value) (s' : yS) : Prop := (s'.2 = s.2 ∧ ∀ k, ¬ k = 73 → ¬ k = 74 → s'.1 k = s.1 k) ∧ ∃ r : Int32, v = some (.int r) ∧ ((r.toInt = 0 ∧ rso kd cf fs F tm tn hw co x = -1) ∨ (r.toInt = 1 ∧ ∃ g : Nat, rso kd cf fs F tm tn hw co x = (g : Int) ∧ g < H ∧ (s'.1 73).toInt = 204 * b + (g : Int) ∧ (s'.1 74).toInt = hb g ∧ ow g = co))
section YOF
variable {ar kd : Int → Int} {cf : Nat → Int} {fs : Nat → Nat} {F H d : Nat} {nT : Int} {tm tn : Int → Nat} {hd : Nat → Nat × Nat × List (List Int)} {hb ow hw wf : Nat → Int} {Bf : Int → List (List Int)} {b A co x : Int} {s s' : yS} {a1 a2 : Int32}
theorem fsM_no : ∀ (k i : Nat), fsM wf x i k = -1 → ∀ g : Nat, i ≤ g → g < i + k → ¬ wf g = x
  | 0, i, _, g, h1, h2 => by omega
  | k + 1, i, h, g, h1, h2 => by
    have h' : (if wf i = x then (i : Int) else fsM wf x (i + 1) k) = -1 := h
    by_cases hi : wf i = x
    · rw [if_pos hi] at h'
      omega
    · rw [if_neg hi] at h'
      by_cases eg : g = i
      · rw [eg]
        exact hi
      · exact fsM_no k (i + 1) h' g (by omega) (by omega)
set_option maxHeartbeats 2000000 in
/-- findHead -/
theorem x_193 (hG : PGr ar kd cf fs F H nT tm tn hd hb ow hw Bf b A s) (hel : KI (s.2.1 264) a1.toInt / 8 = co) (hco : 0 ≤ co ∧ co < nT) (hwx : ∀ h : Nat, h < H → (wHr b s h = a2.toInt ↔ hw h = x)) : Par d 193 [.ref 213, .int a1, .int a2] s (FHq kd cf fs F H tm tn hb ow hw b co x s) := by
  cases d with
  | zero => exact Par_0
  | succ d =>
    obtain ⟨⟨g75, gb, -, gH, gF, gT⟩, gt, gf, gi, gh, -⟩ := hG
    obtain ⟨k1, -⟩ := gt co hco.1 hco.2
    refine pb_193 ?_
    unfold ub_193_0
    intro _ x1 hx1 ka
    have ec : (s.2.1 264 a1.toInt.toNat).toInt / 8 = co := by
      rw [KI_p ka.1] at hel
      exact hel
    refine Par.imp x_185 ?_
    rintro v3 s2 ⟨hs2, x4, rfl, hx4⟩
    subst hs2
    rw [ec] at hx4
    refine ⟨x4, rfl, fun _ x5 hx5 s6 hs6 _ => ?_⟩
    have e5 : x5.toInt = 24 * b + co := by omega
    have r6 : s6.2 = s2.2 := by rw [hs6, sfr_2]
    have f6 : ∀ k, ¬ k = 73 → s6.1 k = s2.1 k := fun k hk => by rw [hs6, sfr_1, if_neg hk]
    have f73 : (s6.1 73).toInt = -1 := by
      rw [hs6, sfr_1, if_pos rfl]
      decide
    rw [r6, e5]
    -- the end
    have fin : ∀ (b1 b2 b3 b4 : Int32) (u : yS), u.2 = s2.2 → (∀ k, ¬ k = 73 → ¬ k = 74 → u.1 k = s2.1 k) → (((u.1 73).toInt = -1 ∧ rso kd cf fs F tm tn hw co x = -1) ∨ ∃ g : Nat, rso kd cf fs F tm tn hw co x = (g : Int) ∧ g < H ∧ (u.1 73).toInt = 204 * b + (g : Int) ∧ (u.1 74).toInt = hb g ∧ ow g = co) → ub_193_114 (Par d) b1 b2 b3 b4 u (FHq kd cf fs F H tm tn hb ow hw b co x s2) := by
      intro b1 b2 b3 b4 u hu1 hu2 hu3
      unfold ub_193_114
      refine ⟨fun z _ => ⟨⟨hu1, hu2⟩, 0, rfl, Or.inl ⟨by decide, ?_⟩⟩, fun z _ => ⟨⟨hu1, hu2⟩, 1, rfl, Or.inr ⟨by decide, ?_⟩⟩⟩
      · rcases hu3 with q | ⟨g, q1, q2, q3, -⟩
        · exact q.2
        · omega
      · rcases hu3 with q | q
        · omega
        · exact q
    refine ⟨fun w1 _ => ?_, fun w1 => ?_⟩
    · -- an interface
      have hk2 : kd co = 2 := by
        rcases k1 with q | q
        · omega
        · exact q.1
      obtain ⟨-, i1, i2, i3, i4⟩ := gi co hk2
      have ers : rso kd cf fs F tm tn hw co x = fsM hw x (tm co) (tn co) := by
        unfold rso
        rw [if_neg (by omega), if_pos hk2]
      refine ⟨fun b1 b2 b3 b4 u => b1 = a1 ∧ b2 = a2 ∧ b3 = x5 ∧ u.2 = s2.2 ∧ (∀ k, ¬ k = 73 → ¬ k = 74 → u.1 k = s2.1 k) ∧ ∃ h : Nat, tm co ≤ h ∧ h ≤ tm co + tn co ∧ b4.toInt = 204 * b + (h : Int) ∧ (((u.1 73).toInt = -1 ∧ ∀ g : Nat, tm co ≤ g → g < h → ¬ hw g = x) ∨ ∃ g : Nat, tm co ≤ g ∧ g < h ∧ hw g = x ∧ (u.1 73).toInt = 204 * b + (g : Int) ∧ (u.1 74).toInt = 1000 + 6 * co), ⟨rfl, rfl, rfl, r6, fun k h1 _ => f6 k h1, tm co, Nat.le_refl _, by omega, i1, Or.inl ⟨f73, fun g h1 h2 => by omega⟩⟩, ?_⟩
      rintro b1 b2 b3 b4 u ⟨e1, e2, e3, hu1, hu2, h, j1, j2, j3, j4⟩
      subst e1 e2 e3
      unfold ub_193_78
      rw [hu1, e5]
      intro _ _ _ y1 hy1
      rw [i1, i2] at hy1
      refine ⟨fun z => fin _ _ _ _ u hu1 hu2 ?_, fun z kb kc => ?_⟩
      · have eh : h = tm co + tn co := by omega
        rw [eh] at j4
        rw [ers]
        rcases fsM_b (wf := hw) (x := x) (tn co) (tm co) with q | ⟨g, q1, q2, q3, q4⟩
        · refine Or.inl ⟨?_, q⟩
          rcases j4 with p | ⟨g, p1, p2, p3, -⟩
          · exact p.1
          · exact absurd p3 (fsM_no _ _ q g p1 p2)
        · obtain ⟨m1, m2, m3⟩ := i4 g q1 q2
          refine Or.inr ⟨g, q3, by omega, ?_, ?_, m2⟩
          · rcases j4 with p | ⟨g', p1, p2, p3, p4, -⟩
            · exact absurd q4 (p.2 g q1 q2)
            · rw [p4, m3 g' p1 p2 (q4.trans p3.symm)]
          · rcases j4 with p | ⟨g', p1, p2, p3, p4, p5⟩
            · exact absurd q4 (p.2 g q1 q2)
            · rw [p5, m1]
      · have hh : h < tm co + tn co := by omega
        have ew : (s2.2.1 217 (s2.2.1 244 b4.toInt.toNat).toInt.toNat).toInt = wHr b s2 h := by
          unfold wHr
          rw [j3]
        have hq := hwx h (by omega)
        rw [ew]
        refine ⟨fun z1 _ y2 hy2 => ?_, fun z1 s2' hs2' kd1 => ?_⟩
        · refine ⟨rfl, rfl, rfl, hu1, hu2, h + 1, by omega, by omega, by omega, ?_⟩
          rcases j4 with p | ⟨g, p1, p2, p3⟩
          · refine Or.inl ⟨p.1, fun g h1 h2 => ?_⟩
            by_cases eg : g = h
            · rw [eg]
              exact fun q => z1 (hq.mpr q)
            · exact p.2 g h1 (by omega)
          · exact Or.inr ⟨g, p1, by omega, p3⟩
        · refine Par.imp x_185 ?_
          rintro v4 s3 ⟨hs3, y5, rfl, hy5⟩
          have e25 : s2'.2.1 264 = s2.2.1 264 := by rw [hs2', sfr_2, hu1]
          rw [e25, ec] at hy5
          refine ⟨y5, rfl, fun _ y6 hy6 _ y7 hy7 s8 hs8 _ y9 hy9 => ?_⟩
          have fk : ∀ k, s8.1 k = if k = 74 then y7 else if k = 73 then b4 else u.1 k := fun k => by rw [hs8, sfr_1, hs3, hs2', sfr_1]
          refine ⟨rfl, rfl, rfl, by rw [hs8, sfr_2, hs3, hs2', sfr_2, hu1], fun k h1 h2 => by rw [fk, if_neg h2, if_neg h1]; exact hu2 k h1 h2, h + 1, by omega, by omega, by omega, Or.inr ⟨h, j1, by omega, hq.mp z1, ?_, ?_⟩⟩
          · rw [fk, if_neg (by decide), if_pos rfl]
            exact j3
          · rw [fk, if_pos rfl]
            omega
    · -- a struct
      have hk1 : kd co = 1 := by
        rcases k1 with q | q
        · exact q.1
        · exact absurd q.2 w1
      obtain ⟨f1, f2⟩ := gf
      have ers : rso kd cf fs F tm tn hw co x = if 0 ≤ lFw cf (fun f => hw (fs f)) co x F then (fs (lFw cf (fun f => hw (fs f)) co x F).toNat : Int) else -1 := by
        unfold rso
        rw [if_pos hk1]
      refine ⟨fun b1 b2 b3 b4 u => b1 = a1 ∧ b2 = a2 ∧ u.2 = s2.2 ∧ (∀ k, ¬ k = 73 → ¬ k = 74 → u.1 k = s2.1 k) ∧ ∃ k : Nat, k ≤ F ∧ b4.toInt = (k : Int) ∧ ((lFw cf (fun f => hw (fs f)) co x k = -1 ∧ (u.1 73).toInt = -1) ∨ ∃ g : Nat, g < k ∧ lFw cf (fun f => hw (fs f)) co x k = (g : Int) ∧ (u.1 73).toInt = 204 * b + (fs g : Int) ∧ (u.1 74).toInt = 4000 + 6 * (g : Int)), ⟨rfl, rfl, r6, fun k h1 _ => f6 k h1, 0, Nat.zero_le _, by decide, Or.inl ⟨rfl, f73⟩⟩, ?_⟩
      rintro b1 b2 b3 b4 u ⟨e1, e2, hu1, hu2, k, j1, j2, j3⟩
      subst e1 e2
      unfold ub_193_21
      rw [hu2 75 (by decide) (by decide), g75, hu1, f1]
      intro _
      refine ⟨fun z => fin _ _ _ _ u hu1 hu2 ?_, fun z _ y1 hy1 _ y2 hy2 k2 k3 => ?_⟩
      · have ek : k = F := by omega
        rw [ek] at j3
        rw [ers]
        rcases j3 with ⟨q1, q2⟩ | ⟨g, q1, q2, q3, q4⟩
        · refine Or.inl ⟨q2, ?_⟩
          rw [q1, if_neg (by decide)]
        · obtain ⟨m1, m2, m3, m4, m5, -⟩ := f2 g q1
          refine Or.inr ⟨fs g, ?_, m3, q3, by rw [q4, m4], ?_⟩
          · rw [q2, if_pos (by omega), Int.toNat_natCast]
          · rcases lFw_b (cf := cf) (wf := fun f => hw (fs f)) (c := co) (x := x) F with p | ⟨g', p1, p2, p3, p4⟩
            · omega
            · have eg : g' = g := by omega
              rw [m5, ← eg]
              exact p3
      · have hk : k < F := by omega
        obtain ⟨m1, m2, m3, m4, m5, -⟩ := f2 k hk
        have e2 : y2.toInt = 60 * b + (k : Int) := by omega
        rw [e2, m1]
        have elF : lFw cf (fun f => hw (fs f)) co x (k + 1) = if cf k = co ∧ hw (fs k) = x then (k : Int) else lFw cf (fun f => hw (fs f)) co x k := rfl
        have no : ∀ (y : Int32) (u' : yS), u' = u → ¬ (cf k = co ∧ hw (fs k) = x) → ub_193_70 (Par d) (fun b1' b2' b3' b4' u => b1' = b1 ∧ b2' = b2 ∧ u.2 = s2.2 ∧ (∀ k, ¬ k = 73 → ¬ k = 74 → u.1 k = s2.1 k) ∧ ∃ k : Nat, k ≤ F ∧ b4'.toInt = (k : Int) ∧ ((lFw cf (fun f => hw (fs f)) co x k = -1 ∧ (u.1 73).toInt = -1) ∨ ∃ g : Nat, g < k ∧ lFw cf (fun f => hw (fs f)) co x k = (g : Int) ∧ (u.1 73).toInt = 204 * b + (fs g : Int) ∧ (u.1 74).toInt = 4000 + 6 * (g : Int))) b1 b2 b3 b4 y u' (FHq kd cf fs F H tm tn hb ow hw b co x s2) := by
          intro y u' hu' hn
          unfold ub_193_70
          intro _ z1 hz1
          rw [hu']
          refine ⟨rfl, rfl, hu1, hu2, k + 1, by omega, by omega, ?_⟩
          rw [elF, if_neg hn]
          rcases j3 with q | ⟨g, q1, q2⟩
          · exact Or.inl q
          · exact Or.inr ⟨g, by omega, q2⟩
        refine Par.imp x_185 ?_
        rintro v4 s3 ⟨hs3, y5, rfl, hy5⟩
        rw [ec] at hy5
        have hs3' : s3.2 = s2.2 := by rw [hs3, hu1]
        refine ⟨y5, rfl, fun z1 => no _ _ hs3 (fun q => z1 (by rw [hy5]; exact q.1)), fun z1 _ => ?_⟩
        rw [hs3', m2]
        intro _ _
        have ew : (s2.2.1 217 (s2.2.1 244 (204 * b + (fs k : Int)).toNat).toInt.toNat).toInt = wHr b s2 (fs k) := rfl
        have hq := hwx (fs k) m3
        rw [ew]
        refine ⟨fun z2 => no _ _ hs3 (fun q => z2 (hq.mpr q.2)), fun z2 _ s6' hs6' _ y7 hy7 _ y8 hy8 s9 hs9 => ?_⟩
        unfold ub_193_70
        intro _ z3 hz3
        have fk : ∀ q, s9.1 q = if q = 74 then y8 else if q = 73 then s2.2.1 257 (60 * b + (k : Int)).toNat else u.1 q := fun q => by rw [hs9, sfr_1, hs6', sfr_1, hs3]
        refine ⟨rfl, rfl, by rw [hs9, sfr_2, hs6', sfr_2, hs3'], fun q h1 h2 => by rw [fk, if_neg h2, if_neg h1]; exact hu2 q h1 h2, k + 1, by omega, by omega, Or.inr ⟨k, by omega, ?_, ?_, ?_⟩⟩
        · rw [elF, if_pos ⟨by omega, hq.mp z2⟩]
        · rw [fk, if_neg (by decide), if_pos rfl]
          exact m2
        · rw [fk, if_pos rfl]
          omega
end YOF
