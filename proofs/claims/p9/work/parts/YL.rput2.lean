/-! ===== the reference: put ===== -/
/-- what put leaves: res is what the env makes of the TYPE -/
def PTq (T : Int) (res : List Int) (s : yS) (v : Option Value) (s' : yS) : Prop := PKf T s s' ∧ ∃ r : Int32, v = some (.int r) ∧ ((r.toInt = 0 ∧ 60 < res.length ∧ s'.1 = s.1) ∨ (r.toInt = 1 ∧ res.length ≤ 60 ∧ (s'.1 71).toInt = T ∧ (s'.1 72).toInt = (res.length : Int) ∧ (s'.1 64).toInt = T + (res.length : Int) ∧ (∀ k, ¬ k = 64 → ¬ k = 71 → ¬ k = 72 → s'.1 k = s.1 k) ∧ RWel s' T res))
section YLP
variable {d e : Nat} {s s' u : yS} {a1 a2 a3 : Int32} {T c0 c1 x : Int} {X Y : List (List Int)} {E A B : List Int}
theorem PKf_tr (h : PKf T s s') (g : PKf T s' u) : PKf T s u := ⟨g.1.trans h.1, fun q j w => (g.2.1 q j w).trans (h.2.1 q j w), fun j w => (g.2.2 j w).trans (h.2.2 j w)⟩
theorem EVr_pk (h : PKf T s u) (g : EVr s e T c0 X c1 Y) : EVr u e T c0 X c1 Y := by
  have ge : ∀ {q : Nat} {Z : List (List Int)} {m : Nat}, GRe s q T Z m → GRe u q T Z m := fun {q Z m} w0 i A hi hA => by
    obtain ⟨x, h1, h2, h3, h4⟩ := w0 i A hi hA
    exact ⟨x, by rw [h.2.1 _ _ (by decide)]; exact h1, by rw [h.2.1 _ _ (by decide)]; exact h2, h3, PKf_el h h3.1 h3.2 h4⟩
  obtain ⟨⟨g1, g2, g3⟩, g4, g5, g6⟩ := g
  exact ⟨⟨by rw [h.2.1 _ _ (by decide)]; exact g1, by rw [h.2.1 _ _ (by decide)]; exact g2, ge g3⟩, by rw [h.2.1 _ _ (by decide)]; exact g4, by rw [h.2.1 _ _ (by decide)]; exact g5, ge g6⟩
theorem rpt_at (hE : EVr s e T c0 X c1 Y) (x : Int) : (fnd e c0 (X.length : Int) c1 (Y.length : Int) (x / 8) = -1 ∧ rpt c0 X c1 Y x = [x]) ∨ (0 ≤ fnd e c0 (X.length : Int) c1 (Y.length : Int) (x / 8) ∧ ∃ p : Int, (s.2.1 267 (fnd e c0 (X.length : Int) c1 (Y.length : Int) (x / 8)).toNat).toInt = p ∧ (s.2.1 268 (fnd e c0 (X.length : Int) c1 (Y.length : Int) (x / 8)).toNat).toInt = ((rpt c0 X c1 Y x).length : Int) ∧ (0 ≤ p ∧ p + ((rpt c0 X c1 Y x).length : Int) ≤ T) ∧ RWel s p (rpt c0 X c1 Y x)) := by
  obtain ⟨⟨-, -, g3⟩, -, -, g6⟩ := hE
  unfold fnd rpt
  by_cases h1 : x / 8 < 1000
  · rw [if_pos h1, if_pos h1]
    exact Or.inl ⟨rfl, rfl⟩
  · rw [if_neg h1, if_neg h1]
    by_cases h2 : 0 ≤ x / 8 - c0 ∧ x / 8 - c0 < (X.length : Int)
    · rw [if_pos h2, if_pos h2]
      have hi : (x / 8 - c0).toNat < X.length := by omega
      have hz : X[(x / 8 - c0).toNat]? = some X[(x / 8 - c0).toNat] := List.getElem?_eq_getElem hi
      obtain ⟨p, k1, k2, k3, k4⟩ := g3 _ _ hi hz
      have ed : X.getD (x / 8 - c0).toNat [] = X[(x / 8 - c0).toNat] := by rw [List.getD_eq_getElem?_getD, hz]; rfl
      rw [ed, show (12 * (e : Int) + (x / 8 - c0)).toNat = 6 * (2 * e) + (x / 8 - c0).toNat by omega]
      exact Or.inr ⟨by omega, p, k1, k2, k3, k4⟩
    · rw [if_neg h2, if_neg h2]
      by_cases h3 : 0 ≤ x / 8 - c1 ∧ x / 8 - c1 < (Y.length : Int)
      · rw [if_pos h3, if_pos h3]
        have hi : (x / 8 - c1).toNat < Y.length := by omega
        have hz : Y[(x / 8 - c1).toNat]? = some Y[(x / 8 - c1).toNat] := List.getElem?_eq_getElem hi
        obtain ⟨p, k1, k2, k3, k4⟩ := g6 _ _ hi hz
        have ed : Y.getD (x / 8 - c1).toNat [] = Y[(x / 8 - c1).toNat] := by rw [List.getD_eq_getElem?_getD, hz]; rfl
        rw [ed, show (12 * (e : Int) + 6 + (x / 8 - c1)).toNat = 6 * (2 * e + 1) + (x / 8 - c1).toNat by omega]
        exact Or.inr ⟨by omega, p, k1, k2, k3, k4⟩
      · rw [if_neg h3, if_neg h3]
        exact Or.inl ⟨rfl, rfl⟩
theorem fm_s {f : Int → List Int} {k : Nat} {c : Int} (h : E[k]? = some c) : (E.take (k + 1)).flatMap f = (E.take k).flatMap f ++ f c := by
  rw [take_s h, List.flatMap_append]
  congr 1
  show f c ++ [] = f c
  rw [List.append_nil]
theorem fm_le {f : Int → List Int} (k : Nat) : ((E.take k).flatMap f).length ≤ (E.flatMap f).length := by
  have e1 : E.flatMap f = (E.take k).flatMap f ++ (E.drop k).flatMap f := by rw [← List.flatMap_append, List.take_append_drop]
  rw [e1, List.length_append]
  omega
/-- one element more behind a row -/
theorem RWel_s {y : Nat} {v : Int32} {c : Int} (h0 : 0 ≤ T) (hy : (y : Int) = T + (A.length : Int)) (hv : v.toInt = c) (g : RWel s T A) : RWel (sa s 264 y v) T (A ++ [c]) := fun i c' hc' => by
  have hi := (List.getElem?_eq_some_iff.mp hc').1
  rw [List.length_append] at hi
  have hi2 : i < A.length + 1 := hi
  rw [KI_p (by omega), sa_21]
  by_cases ei : i = A.length
  · rw [ei, List.getElem?_append_right (Nat.le_refl _), Nat.sub_self] at hc'
    have ec : c = c' := by simpa using hc'
    rw [if_pos ⟨rfl, by omega⟩, hv, ec]
  · rw [List.getElem?_append_left (by omega)] at hc'
    rw [if_neg (fun q => by omega), ← KI_p (by omega)]
    exact g i c' hc'
set_option maxHeartbeats 2000000 in
/-- put -/
theorem x_191 (hT : (s.1 64).toInt = T) (hE : EVr s e T c0 X c1 Y) (h3 : a3.toInt = (e : Int)) (h2 : a2.toInt = (E.length : Int)) (h1 : 0 ≤ a1.toInt ∧ a1.toInt + (E.length : Int) ≤ T) (hw : RWel s a1.toInt E) : Par d 191 [.ref 213, .int a1, .int a2, .int a3] s (PTq T (E.flatMap (rpt c0 X c1 Y)) s) := by
  cases d with
  | zero => exact Par_0
  | succ d =>
    obtain ⟨R, hR⟩ : ∃ R, R = rpt c0 X c1 Y := ⟨_, rfl⟩
    rw [← hR]
    refine pb_191 ?_
    unfold ub_191_0
    obtain ⟨I, hI⟩ : ∃ I : Int32 → Int32 → Int32 → Int32 → Int32 → Int32 → yS → Prop, I = fun b1 b2 b3 b4 b5 b6 u => b1 = a1 ∧ b2 = a2 ∧ b3 = a3 ∧ b4 = s.1 64 ∧ u.1 = s.1 ∧ PKf T s u ∧ ∃ k : Nat, k ≤ E.length ∧ b6.toInt = a1.toInt + (k : Int) ∧ b5.toInt = (((E.take k).flatMap R).length : Int) ∧ ((E.take k).flatMap R).length ≤ 60 ∧ RWel u T ((E.take k).flatMap R) := ⟨_, rfl⟩
    refine ⟨I, ?_, ?_⟩
    · rw [hI]
      exact ⟨rfl, rfl, rfl, rfl, rfl, PKf_rf, 0, Nat.zero_le _, by omega, by show (0 : Int32).toInt = 0; decide, Nat.zero_le _, fun i c hc => by cases hc⟩
    intro b1 b2 b3 b4 b5 b6 u hu
    rw [hI] at hu
    obtain ⟨e1, e2, e3, e4, f1, f2, k, g1, g2, g3, g4, g5⟩ := hu
    subst e1 e2 e3 e4
    unfold ub_191_7
    intro _ x1 hx1
    refine ⟨fun y s2 hs2 s3 hs3 _ x4 hx4 s5 hs5 => ?_, fun y k6 => ?_⟩
    · have ek : k = E.length := by omega
      rw [ek, List.take_length] at g3 g4 g5
      have er : s5.2 = u.2 := by rw [hs5, sfr_2, hs3, sfr_2, hs2, sfr_2]
      have ef : ∀ q, s5.1 q = if q = 64 then x4 else if q = 72 then b5 else if q = 71 then s.1 64 else s.1 q := fun q => by
        rw [hs5, sfr_1, hs3, sfr_1, hs2, sfr_1, f1]
      refine ⟨⟨by rw [er]; exact f2.1, fun q j w => by rw [er]; exact f2.2.1 q j w, fun j w => by rw [er]; exact f2.2.2 j w⟩, 1, rfl, Or.inr ⟨by decide, g4, ?_, ?_, ?_, fun q w1 w2 w3 => ?_, fun i c hc => ?_⟩⟩
      · rw [ef, if_neg (by decide), if_neg (by decide), if_pos rfl]
        exact hT
      · rw [ef, if_neg (by decide), if_pos rfl]
        exact g3
      · rw [ef, if_pos rfl]
        omega
      · rw [ef, if_neg w1, if_neg w3, if_neg w2]
      · rw [er]
        exact g5 i c hc
    have hk : k < E.length := by omega
    obtain ⟨c, hc⟩ : ∃ c, E[k]? = some c := ⟨_, List.getElem?_eq_getElem hk⟩
    have wE : RWel u b1.toInt E := PKf_el f2 h1.1 h1.2 hw
    have vc : (u.2.1 264 b6.toInt.toNat).toInt = c := RWel_at wE hc g2 k6.1
    have hEu := EVr_pk f2 hE
    refine Par.imp x_185 ?_
    rintro v7 s6 ⟨hs6, x8, rfl, hx8⟩
    subst hs6
    rw [vc] at hx8
    refine ⟨x8, rfl, ?_⟩
    refine Par.imp (x_192 (e := e) h3 hEu.1.1 hEu.1.2.1 hEu.2.1 hEu.2.2.1) ?_
    rintro v10 s9 ⟨hs9, x11, rfl, hx11⟩
    rw [hx8] at hx11
    have hs := rpt_at hEu c
    rw [← hx11, ← hR] at hs
    have hsl : ((E.take (k + 1)).flatMap R).length = ((E.take k).flatMap R).length + (R c).length := by rw [fm_s hc, List.length_append]
    have hle := fm_le (E := E) (f := R) (k + 1)
    -- one piece
    have piece : ∀ m : Int32, m.toInt = ((R c).length : Int) → ub_191_29 (Par d) I b1 b2 b3 (s.1 64) b5 b6 x11 m s9 (PTq T (E.flatMap R) s) := by
      intro m hm
      unfold ub_191_29
      intro _ y1 hy1
      refine ⟨fun w => ?_, fun w s2 hs2 => ?_⟩
      · refine ⟨fun d1 d2 d3 d4 d5 d6 d7 d8 d9 t => d1 = b1 ∧ d2 = b2 ∧ d3 = b3 ∧ d4 = s.1 64 ∧ d5 = b5 ∧ d6 = b6 ∧ d7 = x11 ∧ d8 = m ∧ t.1 = s.1 ∧ PKf T s t ∧ ∃ i : Nat, i ≤ (R c).length ∧ d9.toInt = (i : Int) ∧ RWel t T ((E.take k).flatMap R ++ (R c).take i), ⟨rfl, rfl, rfl, rfl, rfl, rfl, rfl, rfl, by rw [hs9]; exact f1, by rw [hs9]; exact f2, 0, Nat.zero_le _, by decide, by rw [hs9, List.take_zero, List.append_nil]; exact g5⟩, ?_⟩
        rintro d1 d2 d3 d4 d5 d6 d7 d8 d9 t ⟨r1, r2, r3, r4, r5, r6, r7, r8, m1, m2, i, n1, n2, n3⟩
        subst r1 r2 r3 r4 r5 r6 r7 r8
        unfold ub_191_42
        refine ⟨fun z _ z1 hz1 _ z2 hz2 => ?_, fun z _ z3 hz3 _ z4 hz4 => ?_⟩
        · have ei : i = (R c).length := by omega
          rw [ei, List.take_length, ← fm_s hc] at n3
          rw [hI]
          exact ⟨rfl, rfl, rfl, rfl, m1, m2, k + 1, by omega, by omega, by omega, by omega, n3⟩
        · have hi : i < (R c).length := by omega
          have hT0 : 0 ≤ T := by omega
          have e64 : (s.1 64).toInt = T := hT
          have store : ∀ v : Int32, v.toInt = (R c)[i] → ub_191_68 (Par d) I (fun d1' d2' d3' d4' d5' d6' d7' d8' d9' t => d1' = d1 ∧ d2' = d2 ∧ d3' = d3 ∧ d4' = s.1 64 ∧ d5' = d5 ∧ d6' = d6 ∧ d7' = d7 ∧ d8' = d8 ∧ t.1 = s.1 ∧ PKf T s t ∧ ∃ i : Nat, i ≤ (R c).length ∧ d9'.toInt = (i : Int) ∧ RWel t T ((E.take k).flatMap R ++ (R c).take i)) d1 d2 d3 (s.1 64) d5 d6 d7 d8 d9 z4 v t (PTq T (E.flatMap R) s) := by
            intro v hv
            unfold ub_191_68
            intro kz s1 hs1 _ z5 hz5
            have hy : ((z4.toInt.toNat : Nat) : Int) = T + (((E.take k).flatMap R ++ (R c).take i).length : Int) := by
              rw [List.length_append, List.length_take]
              omega
            refine ⟨rfl, rfl, rfl, rfl, rfl, rfl, rfl, rfl, by rw [hs1, sa_1r]; exact m1, ⟨by rw [hs1]; exact m2.1, fun q j w => by rw [hs1, sa_21, if_neg (fun q => w q.1)]; exact m2.2.1 q j w, fun j w => by rw [hs1, sa_21, if_neg (fun q => by omega)]; exact m2.2.2 j w⟩, i + 1, by omega, by omega, ?_⟩
            rw [take_s (List.getElem?_eq_getElem hi), ← List.append_assoc, hs1]
            exact RWel_s hT0 hy hv n3
          have hst : t.2.1 267 = s9.2.1 267 := by
            rw [hs9]
            funext j
            rw [m2.2.1 _ _ (by decide), f2.2.1 _ _ (by decide)]
          refine ⟨fun z1 k1 _ z5 hz5 k5 => store _ ?_, fun z1 k1 => store _ ?_⟩
          · rcases hs with ⟨q1, -⟩ | ⟨q0, p, q1, q2, q3, q4⟩
            · omega
            · have e5 : z5.toInt = p + (i : Int) := by
                rw [hz5, hst, hs9, q1, n2]
              have wt : RWel t p (R c) := PKf_el (T := T) (s := s) m2 q3.1 q3.2 (fun j c' hj => by
                have hj1 := (List.getElem?_eq_some_iff.mp hj).1
                rw [← q4 j c' hj, KI_p (by omega), KI_p (by omega), f2.2.2 _ (by omega)])
              exact RWel_at wt (List.getElem?_eq_getElem hi) e5 k5.1
          · rcases hs with ⟨-, q2⟩ | ⟨q0, -⟩
            · have hi0 : i = 0 := by
                rw [q2] at hi
                exact Nat.lt_one_iff.mp hi
              subst hi0
              have e0 : (R c)[0] = c := by
                have z1 := List.getElem?_eq_getElem hi
                have z2 : (R c)[0]? = some c := by
                  rw [q2]
                  rfl
                rw [z1] at z2
                exact Option.some.inj z2
              rw [e0]
              have wt : RWel t d1.toInt E := PKf_el m2 h1.1 h1.2 hw
              exact RWel_at wt hc g2 k1.1
            · exact absurd q0 z1
      · have ef : s2.1 = s.1 := by
          rw [hs2]
          funext q
          rw [sfr_1, hs9]
          by_cases hq : q = 64
          · rw [if_pos hq, hq]
          · rw [if_neg hq, f1]
        refine ⟨by rw [hs2, hs9]; exact ⟨f2.1, f2.2.1, f2.2.2⟩, 0, rfl, Or.inl ⟨by decide, by omega, ef⟩⟩
    refine ⟨x11, rfl, fun y2 k2 => piece _ ?_, fun y2 => piece 1 ?_⟩
    · rcases hs with ⟨q1, -⟩ | ⟨q0, p, q1, q2, q3, q4⟩
      · omega
      · rw [hs9]
        exact q2
    · rcases hs with ⟨-, q2⟩ | ⟨q0, -⟩
      · rw [q2]
        show (1 : Int32).toInt = 1
        decide
      · exact absurd q0 y2
end YLP
