/-! ===== the class: tell, keep, blame, addCode: what they leave ===== -/
abbrev cTy : Type := Nat → List Value → sW → (Option Value → sW → Prop) → Prop
/-- blame -/
def BL (T : cTy) (P : Nat) : Prop := ∀ (k t sa sk sf sc sz : Int32) (Q : Option Value → sW → Prop), 0 ≤ k.toInt → k.toInt ≤ 15 → (∀ f : Int32, (f.toInt = 0 → sf.toInt = 0 ∧ k.toInt = 0) → Q none (sa, sk, f, sc, sz)) → T 38 [.ref P, .int k, .int t] (sa, sk, sf, sc, sz) Q
/-- tell, at a level -/
def TL (T : cTy) (w : Int) : Prop := ∀ (tk x sa sk sf sc sz : Int32) (Q : Option Value → sW → Prop), x.toInt = w → sf.toInt = 0 → 0 ≤ sk.toInt → sk.toInt ≤ 1900000000 + 500 * w → -10 ≤ tk.toInt → tk.toInt ≤ 2100000000 → (∀ r k f : Int32, sk.toInt < k.toInt → k.toInt ≤ sk.toInt + (421 * (12 - w) + 60) → (f.toInt = 0 → k.toInt ≤ sk.toInt + 60) → tk.toInt + 1 ≤ r.toInt → (r.toInt ≤ tk.toInt + 1 ∨ r.toInt ≤ 4002 + 16 * (12 - w)) → Q (some (.int r)) (sa, k, f, sc, sz)) → T 132 [.ref 83, .int tk, .int x] (sa, sk, sf, sc, sz) Q
/-- keep -/
def KL (T : cTy) : Prop := ∀ (t sa sk sf sc sz : Int32) (Q : Option Value → sW → Prop), 0 ≤ sk.toInt → sk.toInt ≤ 1900000000 → (∀ r k : Int32, sk.toInt ≤ k.toInt → k.toInt ≤ sk.toInt + 4000 → Q (some (.int r)) (sa, k, sf, sc, sz)) → T 92 [.ref 75, .int t] (sa, sk, sf, sc, sz) Q
/-- a size that is even -/
def evn (c : Int32) : Prop := c.toInt % 2 = 0 ∧ 0 ≤ c.toInt ∧ c.toInt ≤ 24000
/-- addCode -/
def CL (T : cTy) (P : Nat) : Prop := ∀ (b1 b2 b3 b4 b5 b6 sa sk sf sc sz : Int32) (Q : Option Value → sW → Prop), evn sc → b1.toInt < 2147483647 → b3.toInt < 2147483647 → b5.toInt < 2147483647 → (∀ c : Int32, evn c → Q none (sa, sk, sf, c, sz)) → T 59 [.ref P, .int b1, .int b2, .int b3, .int b4, .int b5, .int b6] (sa, sk, sf, sc, sz) Q
section SP
variable {T : Nat → cTy} {P : Nat} {Q : Option Value → sW → Prop}
theorem p_38 {a1 a2 sa sk sf sc sz : Int32} (h1 : 0 ≤ a1.toInt) (h2 : a1.toInt ≤ 15) (hq : ∀ f : Int32, (f.toInt = 0 → sf.toInt = 0 ∧ a1.toInt = 0) → Q none (sa, sk, f, sc, sz)) : w_38_0 T P a1 a2 sa sk sf sc sz Q := by
  refine ⟨fun e => hq sf (fun e' => absurd e' e), fun e => ⟨fun e1 => hq sf (fun _ => ⟨e, e1⟩), fun e1 x1 hx x2 h3 h4 x3 h5 h6 => ?_⟩⟩
  have e2 := h3 (by omega)
  have e3 := h5 (by omega)
  exact ⟨by omega, hq x3 (fun w => by omega)⟩
theorem p_132 (hb : BL (T 0) P) {w : Int} (hr : w ≤ 10 → TL (T 0) (w + 1)) {a1 a2 sa sk sf sc sz : Int32} (e : a2.toInt = w) (h0 : sf.toInt = 0) (h1 : 0 ≤ sk.toInt) (h2 : sk.toInt ≤ 1900000000 + 500 * w) (h3 : -10 ≤ a1.toInt) (h4 : a1.toInt ≤ 2100000000) (hw : 1 ≤ w ∧ w ≤ 11) (hq : ∀ r k f : Int32, sk.toInt < k.toInt → k.toInt ≤ sk.toInt + (421 * (12 - w) + 60) → (f.toInt = 0 → k.toInt ≤ sk.toInt + 60) → a1.toInt + 1 ≤ r.toInt → (r.toInt ≤ a1.toInt + 1 ∨ r.toInt ≤ 4002 + 16 * (12 - w)) → Q (some (.int r)) (sa, k, f, sc, sz)) : w_132_0 T P a1 a2 sa sk sf sc sz Q := by
  -- behind the loop
  have fin : ∀ (a3 a4 a5 a7 a8 k f : Int32), sk.toInt < k.toInt → k.toInt ≤ sk.toInt + (421 * (12 - w) + 60) → a1.toInt + 1 ≤ a7.toInt → (a7.toInt = a1.toInt + 1 ∨ a7.toInt ≤ 4001 + 16 * (12 - w)) → (¬ a4.toInt = 0 → a7.toInt ≤ 4001 + 16 * (12 - w)) → w_132_100 T P a1 a2 a3 a4 a5 sk a7 a8 sa k f sc sz Q := by
    intro a3 a4 a5 a7 a8 k f q1 q2 q3 q4 q5
    have en : ∀ f : Int32, (f.toInt = 0 → k.toInt ≤ sk.toInt + 60) → w_132_112 T P a1 a2 a3 a4 a5 sk a7 a8 sa k f sc sz Q := fun f hf => by
      refine ⟨fun _ => hq a7 k f q1 q2 hf q3 (by omega), fun e4 x1 e1 => ?_⟩
      have := q5 e4
      have := e1 (by omega)
      exact hq x1 k f q1 q2 hf (by omega) (by omega)
    intro x1 e1
    have e1 := e1 (by omega)
    refine ⟨fun w1 => en f (fun _ => by omega), fun w1 => hb _ _ _ _ _ _ _ _ (by decide) (by decide) (fun f' hf => ⟨rfl, en f' (fun w2 => ?_)⟩)⟩
    exact absurd (hf w2).2 (by decide)
  -- the loop
  have lp : ∀ (a3 a4 a5 x12 x13 f : Int32), x12.toInt = sk.toInt + 1 → x13.toInt = a1.toInt + 1 → (f.toInt = 0 → 0 ≤ a5.toInt ∧ a5.toInt ≤ 7) → (¬ a4.toInt = 0 → a1.toInt + 1 < 4002) → (a4.toInt = 0 → a5.toInt = 0) → wl_132_79 T P a1 a2 a3 a4 a5 sk x13 0 sa x12 f sc sz Q := by
    intro a3 a4 a5 x12 x13 f e1 e2 e3 e4 e5
    have z0 : (0 : Int32).toInt = 0 := by decide
    refine ⟨fun b1 b2 b3 b4 b5 b6 b7 b8 ta tk tf tc tz => b1 = a1 ∧ b2 = a2 ∧ b6 = sk ∧ ta = sa ∧ tc = sc ∧ tz = sz ∧ 0 ≤ b8.toInt ∧ b8.toInt ≤ 7 ∧ sk.toInt < tk.toInt ∧ a1.toInt + 1 ≤ b7.toInt ∧ (¬ b4.toInt = 0 → a1.toInt + 1 < 4002) ∧ (b4.toInt = 0 → b5.toInt = 0) ∧ (tf.toInt = 0 → b5.toInt ≤ 7 ∧ tk.toInt ≤ sk.toInt + 1 + 60 * b8.toInt) ∧ (w ≤ 10 → tk.toInt ≤ sk.toInt + (421 * (12 - w) + 60)) ∧ (10 < w → tk.toInt = sk.toInt + 1) ∧ ((b7.toInt = a1.toInt + 1 ∧ b8.toInt = 0) ∨ (w ≤ 10 ∧ ¬ b4.toInt = 0 ∧ b7.toInt ≤ 4002 + 16 * (11 - w) + 2 * b8.toInt)), fun _ _ _ _ _ _ _ b8 _ _ _ _ _ => (7 - b8.toInt).toNat, ⟨rfl, rfl, rfl, rfl, rfl, rfl, by omega, by omega, by omega, by omega, e4, e5, fun hf => ⟨(e3 hf).2, by omega⟩, by omega, by omega, Or.inl ⟨by omega, z0⟩⟩, ?_⟩
    rintro b1 b2 b3 b4 b5 b6 b7 b8 ta tk tf tc tz ⟨rfl, rfl, rfl, rfl, rfl, rfl, i1, i2, i3, i4, i5, i6, i7, i8, i9, i10⟩
    have out : w_132_100 T P b1 b2 b3 b4 b5 b6 b7 b8 ta tk tf tc tz Q := fin b3 b4 b5 b7 b8 tk tf i3 (by omega) i4 (by omega) (fun w4 => by have := i5 w4; omega)
    refine ⟨fun _ => out, fun n1 => ⟨fun _ => out, fun hf => ⟨fun _ => out, fun n2 x1 e1 x2 e2 => ?_⟩⟩⟩
    have hf7 := i7 hf
    have e1 := e1 (by omega)
    have e2 := e2 (by omega)
    have n4 : ¬ b4.toInt = 0 := fun w4 => by have := i6 w4; omega
    have n5 := i5 n4
    refine hr (by omega) _ _ _ _ _ _ _ _ (by omega) hf (by omega) (by omega) (by omega) (by omega) (fun r k f r1 r2 r3 r4 r5 => ⟨r, rfl, fun x10 e10 => ?_⟩)
    have e10 := e10 (by omega)
    refine ⟨⟨rfl, rfl, rfl, rfl, rfl, rfl, by omega, by omega, by omega, by omega, i5, i6, fun w3 => ⟨hf7.1, by have := r3 w3; omega⟩, fun _ => by omega, fun w3 => by omega, Or.inr ⟨by omega, n4, by omega⟩⟩, by dsimp only; omega⟩
  intro x6 x7 e7 x8 e8
  have e7 := e7 (by omega)
  have at49 : ∀ (a3 a4 a5 f : Int32), (f.toInt = 0 → 0 ≤ a5.toInt ∧ a5.toInt ≤ 7) → (¬ a4.toInt = 0 → a1.toInt + 1 < 4002) → (a4.toInt = 0 → a5.toInt = 0) → w_132_49 T P a1 a2 a3 a4 a5 sa sk f sc sz Q := by
    intro a3 a4 a5 f q1 q2 q3 y6 _ y12 e12
    have e12 := e12 (by omega)
    exact ⟨by omega, fun x13 e13 => lp a3 a4 a5 y12 x13 f e12 (e13 (by omega)) q1 q2 q3⟩
  have at28 : ∀ (a3 a4 a5 : Int32), (¬ a4.toInt = 0 → a1.toInt + 1 < 4002) → (a4.toInt = 0 → a5.toInt = 0) → w_132_28 T P a1 a2 a3 a4 a5 sa sk sf sc sz Q := by
    intro a3 a4 a5 q2 q3
    refine ⟨fun _ y1 hy => ⟨fun ey => at49 a3 a4 a5 sf (fun _ => by omega) q2 q3, fun ny => hb _ _ _ _ _ _ _ _ (by decide) (by decide) (fun f hf => ⟨rfl, at49 a3 a4 a5 f (fun w2 => ?_) q2 q3⟩)⟩, fun _ => hb _ _ _ _ _ _ _ _ (by decide) (by decide) (fun f hf => ⟨rfl, at49 a3 a4 a5 f (fun w2 => ?_) q2 q3⟩)⟩
    · exact absurd (hf w2).2 (by decide)
    · exact absurd (hf w2).2 (by decide)
  have z0 : (0 : Int32).toInt = 0 := by decide
  have z1 : (1 : Int32).toInt = 1 := by decide
  refine ⟨fun n8 => ⟨fun _ => at28 x6 0 0 (fun w0 => absurd z0 w0) (fun _ => z0), fun w0 => absurd z0 w0⟩, fun n8 => ⟨fun w0 => by rw [z1] at w0; omega, fun _ x1 _ x2 => at28 x6 1 x2 (fun _ => ?_) (fun w0 => by rw [z1] at w0; omega)⟩⟩
  have := e8 (by omega)
  omega
theorem p_83 {a1 sa sk sf sc sz : Int32} (h1 : a1.toInt ≤ 1000000) (hq : ∀ r : Int32, a1.toInt ≤ r.toInt → r.toInt ≤ a1.toInt + 4000 → Q (some (.int r)) (sa, sk, sf, sc, sz)) : w_83_0 T P a1 sa sk sf sc sz Q := by
  have z0 : (0 : Int32).toInt = 0 := by decide
  refine ⟨fun b1 b2 b3 b4 ta tk tf tc tz => b1 = a1 ∧ ta = sa ∧ tk = sk ∧ tf = sf ∧ tc = sc ∧ tz = sz ∧ 0 ≤ b4.toInt ∧ b4.toInt ≤ 4000 ∧ b2.toInt = a1.toInt + b4.toInt, fun _ _ _ b4 _ _ _ _ _ => (4000 - b4.toInt).toNat, ⟨rfl, rfl, rfl, rfl, rfl, rfl, by omega, by omega, by omega⟩, ?_⟩
  rintro b1 b2 b3 b4 ta tk tf tc tz ⟨rfl, rfl, rfl, rfl, rfl, rfl, i1, i2, i3⟩
  have out : w_83_26 T P b1 b2 b3 b4 ta tk tf tc tz Q := hq b2 (by omega) (by omega)
  refine ⟨fun _ => out, fun n1 => ⟨fun _ => out, fun n2 x1 x2 _ x3 _ x4 _ x5 e5 x6 e6 => ?_⟩⟩
  have e5 := e5 (by have := b1.le_toInt; omega)
  have e6 := e6 (by omega)
  exact ⟨⟨rfl, rfl, rfl, rfl, rfl, rfl, by omega, by omega, by omega⟩, by dsimp only; omega⟩
theorem p_92 {a1 sa sk sf sc sz : Int32} (h1 : 0 ≤ sk.toInt) (h2 : sk.toInt ≤ 1900000000) (hE : ∀ Q' : Option Value → sW → Prop, a1.toInt ≤ 1000000 → (∀ r : Int32, a1.toInt ≤ r.toInt → r.toInt ≤ a1.toInt + 4000 → Q' (some (.int r)) (sa, sk, sf, sc, sz)) → T 0 83 [.ref 75, .int a1] (sa, sk, sf, sc, sz) Q') (hq : ∀ r k : Int32, sk.toInt ≤ k.toInt → k.toInt ≤ sk.toInt + 4000 → Q (some (.int r)) (sa, k, sf, sc, sz)) : w_92_0 T P a1 sa sk sf sc sz Q := by
  have z0 : (0 : Int32).toInt = 0 := by decide
  refine ⟨fun e => hE _ (by omega) (fun r r1 r2 => ⟨r, rfl, fun x8 e8 => ?_⟩), fun _ => hq a1 sk (by omega) (by omega)⟩
  have e8 := e8 (by omega)
  refine ⟨fun b1 b2 b3 b4 ta tk tf tc tz => b1 = a1 ∧ b2 = sk ∧ b3 = x8 ∧ ta = sa ∧ tk = sk ∧ tf = sf ∧ tc = sc ∧ tz = sz ∧ 0 ≤ b4.toInt ∧ b4.toInt ≤ x8.toInt, fun _ _ _ b4 _ _ _ _ _ => (x8.toInt - b4.toInt).toNat, ⟨rfl, rfl, rfl, rfl, rfl, rfl, rfl, rfl, by omega, by omega⟩, ?_⟩
  rintro b1 b2 b3 b4 ta tk tf tc tz ⟨rfl, rfl, rfl, rfl, rfl, rfl, rfl, rfl, i1, i2⟩
  refine ⟨fun n1 x1 e1 => ?_, fun n1 x2 _ x3 _ x4 x10 e10 => ?_⟩
  · have e1 := e1 (by omega)
    exact ⟨by omega, hq _ x1 (by omega) (by omega)⟩
  · have e10 := e10 (by omega)
    exact ⟨⟨rfl, rfl, rfl, rfl, rfl, rfl, rfl, rfl, by omega, by omega⟩, by dsimp only; omega⟩
/-- one more in code -/
def nx1 (c : Int32) : Int32 := if c < 24000 then c + 1 else c
theorem nx1_i {c : Int32} (h : 0 ≤ c.toInt) : (nx1 c).toInt = if c.toInt < 24000 then c.toInt + 1 else c.toInt := by
  have e1 : (1 : Int32).toInt = 1 := by decide
  have e2 : (24000 : Int32).toInt = 24000 := by decide
  unfold nx1
  by_cases hc : c.toInt < 24000
  · rw [if_pos hc, if_pos ((i_lt rfl e2).mpr hc)]
    exact i_add rfl e1 (by omega)
  · rw [if_neg hc, if_neg (mt (i_lt rfl e2).mp hc)]
theorem p_59 {a1 a2 a3 a4 a5 a6 sa sk sf sc sz : Int32} (hc : evn sc) (h1 : a1.toInt < 2147483647) (h3 : a3.toInt < 2147483647) (h5 : a5.toInt < 2147483647) (hA : ∀ (v c : Int32) (Q' : Option Value → sW → Prop), (c.toInt < 24000 → c.toInt % 2 = 0 → v.toInt < 2147483647) → Q' none (sa, sk, sf, nx1 c, sz) → T 0 78 [.ref (P + 34), .int v] (sa, sk, sf, c, sz) Q') (hq : ∀ c : Int32, evn c → Q none (sa, sk, sf, c, sz)) : w_59_0 T P a1 a2 a3 a4 a5 a6 sa sk sf sc sz Q := by
  obtain ⟨c1, c2, c3⟩ := hc
  have n1 := nx1_i c2
  have n2 := nx1_i (c := nx1 sc) (by split at n1 <;> omega)
  have n3 := nx1_i (c := nx1 (nx1 sc)) (by split at n1 <;> split at n2 <;> omega)
  have n4 := nx1_i (c := nx1 (nx1 (nx1 sc))) (by split at n1 <;> split at n2 <;> split at n3 <;> omega)
  have n5 := nx1_i (c := nx1 (nx1 (nx1 (nx1 sc)))) (by split at n1 <;> split at n2 <;> split at n3 <;> split at n4 <;> omega)
  have n6 := nx1_i (c := nx1 (nx1 (nx1 (nx1 (nx1 sc))))) (by split at n1 <;> split at n2 <;> split at n3 <;> split at n4 <;> split at n5 <;> omega)
  refine hA a1 sc _ (fun _ _ => h1) ⟨rfl, hA a2 _ _ (fun w1 w2 => by split at n1 <;> omega) ⟨rfl, hA a3 _ _ (fun _ _ => h3) ⟨rfl, hA a4 _ _ (fun w1 w2 => by split at n1 <;> split at n2 <;> split at n3 <;> omega) ⟨rfl, hA a5 _ _ (fun _ _ => h5) ⟨rfl, hA a6 _ _ (fun w1 w2 => by split at n1 <;> split at n2 <;> split at n3 <;> split at n4 <;> split at n5 <;> omega) ⟨rfl, hq _ ?_⟩⟩⟩⟩⟩⟩
  refine ⟨?_, ?_, ?_⟩ <;> (split at n1 <;> split at n2 <;> split at n3 <;> split at n4 <;> split at n5 <;> split at n6 <;> omega)
end SP
