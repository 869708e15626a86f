/-! ===== the reference: the tables that work on TYPES looks at; one ===== -/
/-- node y stands for the elements E, which lie ahead of A -/
def RSe (s : yS) (A y : Int) (E : List Int) : Prop := 0 ≤ y ∧ (0 ≤ (s.2.1 231 y.toNat).toInt ∧ (s.2.1 231 y.toNat).toInt + (E.length : Int) ≤ A) ∧ (s.2.1 232 y.toNat).toInt = (E.length : Int) ∧ RWel s (s.2.1 231 y.toNat).toInt E
/-- HEAD h -/
def HDe (ar : Int → Int) (b A : Int) (s : yS) (h : Nat) (x : Nat × Nat × List (List Int)) (b0 n : Int) : Prop := ((s.2.1 245 (204 * b + (h : Int)).toNat).toInt = (x.1 : Int) ∧ (s.2.1 248 (204 * b + (h : Int)).toNat).toInt = (x.2.1 : Int)) ∧ (x.1 ≤ 6 ∧ x.2.1 ≤ 6 ∧ x.2.2.length = x.1 + x.2.1 + 1) ∧ (∀ L ∈ x.2.2, cdW n (x.1 : Int) L ∧ isR ar 1 L ∧ L.length ≤ 60) ∧ (∀ k : Nat, k < x.1 → RSe s A (s.2.1 247 (6 * (204 * b + (h : Int)) + (k : Int)).toNat).toInt ((x.2.2.getD k []).map (rhE ar b0 (2000 + 6 * (h : Int))))) ∧ (∀ k : Nat, k < x.2.1 → RSe s A (s.2.1 250 (6 * (204 * b + (h : Int)) + (k : Int)).toNat).toInt ((x.2.2.getD (x.1 + k) []).map (rhE ar b0 (2000 + 6 * (h : Int))))) ∧ RSe s A (s.2.1 251 (204 * b + (h : Int)).toNat).toInt ((x.2.2.getD (x.1 + x.2.1) []).map (rhE ar b0 (2000 + 6 * (h : Int))))
/-- the word of HEAD h -/
def wHr (b : Int) (s : yS) (h : Nat) : Int := (s.2.1 217 (s.2.1 244 (204 * b + (h : Int)).toNat).toInt.toNat).toInt
/-- types that are told -/
def cdT (nT : Int) (A : List Int) : Prop := ∀ c ∈ A, c < 24 → c < nT
/-- types: sort, FORMALS, BOUNDS -/
def PGt (ar kd : Int → Int) (nT : Int) (Bf : Int → List (List Int)) (b A : Int) (s : yS) : Prop := ∀ c : Int, 0 ≤ c → c < nT → ((kd c = 1 ∧ (s.2.1 235 (24 * b + c).toNat).toInt = 1) ∨ (kd c = 2 ∧ (s.2.1 235 (24 * b + c).toNat).toInt = 0)) ∧ ((s.2.1 236 (24 * b + c).toNat).toInt = ar c ∧ ar c ≤ 6) ∧ ((Bf c).length : Int) = ar c ∧ (∀ L ∈ Bf c, cdW (ar c) 0 L ∧ isR ar 1 L ∧ L.length ≤ 60 ∧ kd (L.headD 0) = 2 ∧ cdT nT L) ∧ ∀ k : Nat, (k : Int) < ar c → RSe s A (s.2.1 238 (6 * (24 * b + c) + (k : Int)).toNat).toInt (((Bf c).getD k []).map (rhE ar (1000 + 6 * c) 2000))
/-- funcs -/
def PGf (kd : Int → Int) (cf : Nat → Int) (fs : Nat → Nat) (F H : Nat) (nT : Int) (hb ow : Nat → Int) (b : Int) (s : yS) : Prop := (s.2.1 252 b.toNat).toInt = (F : Int) ∧ ∀ f : Nat, f < F → (s.2.1 261 (60 * b + (f : Int)).toNat).toInt = cf f ∧ (s.2.1 257 (60 * b + (f : Int)).toNat).toInt = 204 * b + (fs f : Int) ∧ fs f < H ∧ hb (fs f) = 4000 + 6 * (f : Int) ∧ ow (fs f) = cf f ∧ 0 ≤ cf f ∧ cf f < nT ∧ kd (cf f) = 1
/-- interfaces -/
def PGi (kd : Int → Int) (H : Nat) (nT : Int) (tm tn : Int → Nat) (hb ow hw : Nat → Int) (b : Int) (s : yS) : Prop := ∀ c : Int, kd c = 2 → (0 ≤ c ∧ c < nT) ∧ (s.2.1 242 (24 * b + c).toNat).toInt = 204 * b + (tm c : Int) ∧ (s.2.1 243 (24 * b + c).toNat).toInt = (tn c : Int) ∧ tm c + tn c ≤ H ∧ ∀ h : Nat, tm c ≤ h → h < tm c + tn c → hb h = 1000 + 6 * c ∧ ow h = c ∧ ∀ h' : Nat, tm c ≤ h' → h' < tm c + tn c → hw h = hw h' → h = h'
/-- HEADS -/
def PGh (ar kd : Int → Int) (H : Nat) (nT : Int) (hd : Nat → Nat × Nat × List (List Int)) (hb ow hw : Nat → Int) (b A : Int) (s : yS) : Prop := ∀ h : Nat, h < H → HDe ar b A s h (hd h) (hb h) (ar (ow h)) ∧ bOK (hb h) (2000 + 6 * (h : Int)) ∧ ((0 ≤ ow h ∧ ow h < nT) ∧ (∀ L ∈ (hd h).2.2, cdT nT L) ∧ ∀ k : Nat, k < (hd h).1 → kd (((hd h).2.2.getD k []).headD 0) = 2) ∧ ∀ h' : Nat, h' < H → (wHr b s h = wHr b s h' ↔ hw h = hw h')
def PGr (ar kd : Int → Int) (cf : Nat → Int) (fs : Nat → Nat) (F H : Nat) (nT : Int) (tm tn : Int → Nat) (hd : Nat → Nat × Nat × List (List Int)) (hb ow hw : Nat → Int) (Bf : Int → List (List Int)) (b A : Int) (s : yS) : Prop := ((s.1 75).toInt = b ∧ 0 ≤ b ∧ 10 ≤ A ∧ H ≤ 204 ∧ F ≤ 60 ∧ nT ≤ 24) ∧ PGt ar kd nT Bf b A s ∧ PGf kd cf fs F H nT hb ow b s ∧ PGi kd H nT tm tn hb ow hw b s ∧ PGh ar kd H nT hd hb ow hw b A s ∧ RWel s 0 [40000, 40008, 40016, 40024, 40032, 40040] ∧ (∀ c, 0 ≤ ar c ∧ ar c ≤ 7) ∧ ∀ c, 24 ≤ c → ar c = 0
/-- two TYPES put: 2 one is too great, 1 they are one, 0 they are not -/
def on2 (P Q : List Int) : Int := if 60 < P.length ∨ 60 < Q.length then 2 else if P = Q then 1 else 0
section YNT
variable {ar kd : Int → Int} {cf : Nat → Int} {fs : Nat → Nat} {F H d e e' : Nat} {nT : Int} {tm tn : Int → Nat} {hd : Nat → Nat × Nat × List (List Int)} {hb ow hw : Nat → Int} {Bf : Int → List (List Int)} {b A T e1 y : Int} {s s' : yS} {E E1 E2 : List Int} {a1 a2 a3 a4 : Int32} {c0 c1 c0' c1' : Int} {X Y X' Y' : List (List Int)}
theorem RSe_w (h : WFr T e1 s s') (hA : A ≤ T) (g : RSe s A y E) : RSe s' A y E := by
  obtain ⟨g1, g2, g3, g4⟩ := g
  have r1 : s'.2.1 231 y.toNat = s.2.1 231 y.toNat := h.2.2.1 _ _ (by decide)
  have r2 : s'.2.1 232 y.toNat = s.2.1 232 y.toNat := h.2.2.1 _ _ (by decide)
  unfold RSe
  rw [r1, r2]
  exact ⟨g1, g2, g3, WFr_el h g2.1 (by omega) g4⟩
theorem PGr_w (h : WFr T e1 s s') (hA : A ≤ T) (g : PGr ar kd cf fs F H nT tm tn hd hb ow hw Bf b A s) : PGr ar kd cf fs F H nT tm tn hd hb ow hw Bf b A s' := by
  have r : ∀ q, q < 264 → s'.2.1 q = s.2.1 q := fun q hq => funext fun j => h.2.2.1 q j (Or.inl hq)
  obtain ⟨g1, g2, g3, g4, g5, g6, g7⟩ := g
  refine ⟨?_, fun c hc0 hc1 => ?_, ?_, fun c hc => ?_, fun q hq => ?_, WFr_el h (by decide) (by show (0 : Int) + 6 ≤ T; omega) g6, g7⟩
  · rw [h.1 75 (by decide) (by decide) (by decide) (by decide) (by decide) (by decide) (by decide)]
    exact g1
  · obtain ⟨k1, k2, k3, k4, k5⟩ := g2 c hc0 hc1
    rw [r 235 (by decide), r 236 (by decide), r 238 (by decide)]
    exact ⟨k1, k2, k3, k4, fun k hk => RSe_w h hA (k5 k hk)⟩
  · unfold PGf at g3 ⊢
    rw [r 252 (by decide), r 261 (by decide), r 257 (by decide)]
    exact g3
  · obtain ⟨k1, k2, k3, k4⟩ := g4 c hc
    rw [r 242 (by decide), r 243 (by decide)]
    exact ⟨k1, k2, k3, k4⟩
  · obtain ⟨k1, k2, k3, k4⟩ := g5 q hq
    obtain ⟨m1, m2, m3, m4, m5, m6⟩ := k1
    refine ⟨⟨?_, m2, m3, fun k hk => ?_, fun k hk => ?_, ?_⟩, k2, k3, fun q' hq' => ?_⟩
    · rw [r 245 (by decide), r 248 (by decide)]
      exact m1
    · rw [r 247 (by decide)]
      exact RSe_w h hA (m4 k hk)
    · rw [r 250 (by decide)]
      exact RSe_w h hA (m5 k hk)
    · rw [r 251 (by decide)]
      exact RSe_w h hA m6
    · have := k4 q' hq'
      unfold wHr at this ⊢
      rw [r 217 (by decide), r 244 (by decide)]
      exact this
theorem on2_b {P Q : List Int} : on2 P Q = 0 ∨ on2 P Q = 1 ∨ on2 P Q = 2 := by
  unfold on2
  by_cases h1 : 60 < P.length ∨ 60 < Q.length
  · rw [if_pos h1]
    exact Or.inr (Or.inr rfl)
  · rw [if_neg h1]
    by_cases h2 : P = Q
    · rw [if_pos h2]
      exact Or.inr (Or.inl rfl)
    · rw [if_neg h2]
      exact Or.inl rfl
set_option maxHeartbeats 1000000 in
/-- one -/
theorem x_197 (hT : (s.1 64).toInt = T) (hA : A ≤ T) (hy : RSe s A a1.toInt E1) (hz : RSe s A a3.toInt E2) (h2 : a2.toInt = (e : Int)) (h4 : a4.toInt = (e' : Int)) (hEa : EVr s e T c0 X c1 Y) (hEb : EVr s e' T c0' X' c1' Y') : Par d 197 [.ref 213, .int a1, .int a2, .int a3, .int a4] s (fun v s' => PKf T s s' ∧ (∀ k, ¬ k = 71 → ¬ k = 72 → s'.1 k = s.1 k) ∧ ∃ r : Int32, v = some (.int r) ∧ r.toInt = on2 (E1.flatMap (rpt c0 X c1 Y)) (E2.flatMap (rpt c0' X' c1' Y'))) := by
  cases d with
  | zero => exact Par_0
  | succ d =>
    obtain ⟨R1, hR1⟩ : ∃ R, R = E1.flatMap (rpt c0 X c1 Y) := ⟨_, rfl⟩
    obtain ⟨R2, hR2⟩ : ∃ R, R = E2.flatMap (rpt c0' X' c1' Y') := ⟨_, rfl⟩
    obtain ⟨y1, y2, y3, y4⟩ := hy
    obtain ⟨z1, z2, z3, z4⟩ := hz
    have P1 := fun d => x_191 (d := d) (E := E1) hT hEa h2 y3 ⟨y2.1, by omega⟩ y4
    rw [← hR1] at P1 ⊢
    rw [← hR2]
    refine pb_197 ?_
    unfold ub_197_0
    intro _ _
    refine Par.imp (P1 d) ?_
    rintro v2 s1 ⟨p1, x3, rfl, hc⟩
    refine ⟨x3, rfl, fun w1 => ?_, fun w1 => ?_⟩
    · rcases hc with ⟨q, -⟩ | ⟨-, l1, p71, p72, p64, pk, pw⟩
      · exact absurd q w1
      intro _ _
      have e231 : s1.2.1 231 a3.toInt.toNat = s.2.1 231 a3.toInt.toNat := p1.2.1 _ _ (by decide)
      have e232 : s1.2.1 232 a3.toInt.toNat = s.2.1 232 a3.toInt.toNat := p1.2.1 _ _ (by decide)
      have P2 := x_191 (d := d) (s := s1) (E := E2) (a1 := s1.2.1 231 a3.toInt.toNat) (a2 := s1.2.1 232 a3.toInt.toNat) p64 (EVr_T (by omega) (EVr_pk p1 hEb)) h4 (by rw [e232]; exact z3) (by rw [e231]; exact ⟨z2.1, by omega⟩) (by rw [e231]; exact PKf_el p1 z2.1 (by omega) z4)
      rw [← hR2] at P2
      refine Par.imp P2 ?_
      rintro v5 s4 ⟨q1, x6, rfl, hc2⟩
      have PF : PKf T s s4 := ⟨q1.1.trans p1.1, fun q j w => (q1.2.1 q j w).trans (p1.2.1 q j w), fun j w => (q1.2.2 j (by omega)).trans (p1.2.2 j w)⟩
      have fld : ∀ (s7 : yS) (x : Int32), s7 = s4 → (∀ k, ¬ k = 64 → ¬ k = 71 → ¬ k = 72 → s4.1 k = s.1 k) → ∀ s8, s8 = sf s7 64 (s.1 64) → PKf T s s8 ∧ ∀ k, ¬ k = 71 → ¬ k = 72 → s8.1 k = s.1 k := fun s7 _ h7 hf s8 h8 => by
        rw [h8, h7]
        refine ⟨PF, fun k w1 w2 => ?_⟩
        rw [sfr_1]
        by_cases hk : k = 64
        · rw [if_pos hk, hk]
        · rw [if_neg hk]
          exact hf k hk w1 w2
      refine ⟨x6, rfl, fun w2 => ?_, fun w2 => ?_⟩
      · rcases hc2 with ⟨q, -⟩ | ⟨-, l2, q71, q72, q64, qk, qw⟩
        · exact absurd q w2
        have hf4 : ∀ k, ¬ k = 64 → ¬ k = 71 → ¬ k = 72 → s4.1 k = s.1 k := fun k u1 u2 u3 => (qk k u1 u2 u3).trans (pk k u1 u2 u3)
        refine Par.imp (x_187 (E := R1) (E' := R2) (by rw [p72]) (by rw [q72]) (by rw [p71]; exact PKf_el q1 (by omega) (by omega) pw) (by rw [q71]; exact qw)) ?_
        rintro v8 s7 ⟨hs7, x9, rfl, hx9⟩
        refine ⟨x9, rfl, fun w3 s8 hs8 => ?_, fun w3 s8 hs8 => ?_⟩
        · obtain ⟨m1, m2⟩ := fld s7 0 hs7 hf4 s8 hs8
          refine ⟨m1, m2, 0, rfl, ?_⟩
          rcases hx9 with ⟨n1, -⟩ | ⟨-, n2⟩
          · omega
          · unfold on2
            rw [if_neg (by omega), if_neg n2]
            decide
        · obtain ⟨m1, m2⟩ := fld s7 0 hs7 hf4 s8 hs8
          refine ⟨m1, m2, 1, rfl, ?_⟩
          rcases hx9 with ⟨-, n2⟩ | ⟨n1, -⟩
          · unfold on2
            rw [if_neg (by omega), if_pos n2]
            decide
          · exact absurd n1 w3
      · intro s8 hs8
        rcases hc2 with ⟨-, l2, qs⟩ | ⟨q, -⟩
        · obtain ⟨m1, m2⟩ := fld s4 0 rfl (fun k u1 u2 u3 => by rw [qs]; exact pk k u1 u2 u3) s8 hs8
          refine ⟨m1, m2, 2, rfl, ?_⟩
          unfold on2
          rw [if_pos (Or.inr l2)]
          decide
        · omega
    · rcases hc with ⟨-, l1, ps⟩ | ⟨q, -⟩
      · refine ⟨p1, fun k _ _ => by rw [ps], 2, rfl, ?_⟩
        unfold on2
        rw [if_pos (Or.inl l1)]
        decide
      · omega
end YNT
