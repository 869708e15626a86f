/-! ===== the class: told ahead of E, all bodies, TYPES asked for ===== -/
/-- tellSlot -/
def SLs (T : cTy) : Prop := ∀ (b sa sk sf sc sz : Int32) (Q : Option Value → sW → Prop), sf.toInt = 0 → 0 ≤ sk.toInt → sk.toInt ≤ 1900000000 → (∀ k f : Int32, sk.toInt ≤ k.toInt → k.toInt ≤ sk.toInt + 4691 → (f.toInt = 0 → k.toInt ≤ sk.toInt + 60) → Q none (sa, k, f, sc, sz)) → T 131 [.ref 83, .int b] (sa, sk, sf, sc, sz) Q
/-- enterFunc -/
def EF (T : cTy) : Prop := ∀ (b sa sk sf sc sz : Int32) (Q : Option Value → sW → Prop), evn sc → (∀ a : Int32, -1 ≤ a.toInt → a.toInt ≤ 5000 → Q none (a, sk, sf, sc, sz)) → T 6 [.ref 84, .int b] (sa, sk, sf, sc, sz) Q
/-- tellAll -/
def TA (T : cTy) (P : Nat) : Prop := ∀ (sa sk sf sc sz : Int32) (Q : Option Value → sW → Prop), 0 ≤ sk.toInt → sk.toInt ≤ 1000000000 → (∀ k f : Int32, sk.toInt ≤ k.toInt → k.toInt ≤ sk.toInt + 60000000 → (f.toInt = 0 → sf.toInt = 0) → Q none (sa, k, f, sc, sz)) → T 128 [.ref 83, .ref P] (sa, sk, sf, sc, sz) Q
/-- check -/
def CKs (T : cTy) (P : Nat) : Prop := ∀ (sa sk sf sc sz : Int32) (Q : Option Value → sW → Prop), 0 ≤ sk.toInt → sk.toInt ≤ 70000000 → evn sc → (∀ a k f c : Int32, 0 ≤ k.toInt → k.toInt ≤ 1200000000 → Q none (a, k, f, c, sz)) → T 5 [.ref 84, .ref P] (sa, sk, sf, sc, sz) Q
/-- Asked.read -/
def AR (T : cTy) (P : Nat) : Prop := ∀ (b sa sk sf sc sz : Int32) (Q : Option Value → sW → Prop), b.toInt ≤ 2 → 0 ≤ sk.toInt → sk.toInt ≤ 1200000000 → (∀ r f : Int32, Q (some (.int r)) (sa, sk, f, sc, sz)) → T 1 [.ref 85, .ref P, .int b] (sa, sk, sf, sc, sz) Q
/-- Row.clear -/
def ZL (T : cTy) (P : Nat) : Prop := ∀ (sa sk sf sc sz : Int32) (Q : Option Value → sW → Prop), (Q none (sa, sk, sf, sc, sz) → ∀ r ∈ [P + 24, P + 26, P + 28, P + 30, P + 32], T 79 [.ref r] (sa, sk, sf, sc, sz) Q) ∧ (Q none (sa, sk, sf, 0, sz) → T 79 [.ref (P + 34)] (sa, sk, sf, sc, sz) Q) ∧ (Q none (sa, sk, sf, sc, 0) → T 79 [.ref 1] (sa, sk, sf, sc, sz) Q)
/-- Program.begin -/
def BG (T : cTy) (P : Nat) : Prop := ∀ (sa sk sf sc sz : Int32) (Q : Option Value → sW → Prop), Q none (sa, 18738, 0, 0, sz) → T 37 [.ref P, .ref 1] (sa, sk, sf, sc, sz) Q
/-- readTape -/
def RTs (T : cTy) : Prop := ∀ (b sa sk sf sc sz : Int32) (Q : Option Value → sW → Prop), b.toInt ≤ 2 → 0 ≤ sk.toInt → sk.toInt ≤ 1200000000 → (∀ r f : Int32, Q (some (.int r)) (sa, sk, f, sc, 0)) → T 152 [.ref 0, .int b] (sa, sk, sf, sc, sz) Q
/-- expect -/
def EX (T : cTy) : Prop := ∀ (b sa sk sf sc sz : Int32) (Q : Option Value → sW → Prop), 0 ≤ sa.toInt → sa.toInt ≤ 5000 → (1 ≤ b.toInt ∨ ¬ sf.toInt = 0 ∨ sa.toInt ≤ 4999) → (∀ a f : Int32, 0 ≤ a.toInt → a.toInt ≤ 5000 → (f.toInt = 0 → sf.toInt = 0) → (f.toInt = 0 → 1 ≤ b.toInt → a.toInt ≤ 4002) → Q none (a, sk, f, sc, sz)) → T 73 [.ref 82, .int b] (sa, sk, sf, sc, sz) Q
/-- Machine.step -/
def MSs (T : cTy) : Prop := ∀ (b sa sk sf sc sz : Int32) (Q : Option Value → sW → Prop), b.toInt % 2 = 0 → (Q none (sa, sk, sf, sc, sz)) → T 20 [.ref 105, .int b] (sa, sk, sf, sc, sz) Q
section MR
variable {T : Nat → cTy} {P : Nat} {Q : Option Value → sW → Prop}
theorem p_131 (hb : BL (T 0) P) (ht : TL (T 0) 1) {a1 sa sk sf sc sz : Int32} (h0 : sf.toInt = 0) (h1 : 0 ≤ sk.toInt) (h2 : sk.toInt ≤ 1900000000) (hq : ∀ k f : Int32, sk.toInt ≤ k.toInt → k.toInt ≤ sk.toInt + 4691 → (f.toInt = 0 → k.toInt ≤ sk.toInt + 60) → Q none (sa, k, f, sc, sz)) : w_131_0 T P a1 sa sk sf sc sz Q := by
  intro x6 _ h6
  refine ⟨fun p6 x12 _ _ x13 _ x14 _ => ⟨⟨by omega, by omega⟩, ht _ _ _ _ _ _ _ _ (by decide) h0 h1 (by omega) (by omega) (by omega) (fun r k f r1 r2 r3 _ _ => ⟨r, rfl, fun x32 _ _ => ?_⟩)⟩, fun _ => hq sk sf (by omega) (by omega) (fun _ => by omega)⟩
  have fin : ∀ f' : Int32, (f'.toInt = 0 → f.toInt = 0) → Q none (sa, k, f', sc, sz) := fun f' hf => hq k f' (by omega) (by omega) (fun w => r3 (hf w))
  exact ⟨fun _ => fin f id, fun _ x33 x39 _ _ => ⟨fun _ => fin f id, fun _ => hb _ _ _ _ _ _ _ _ (by decide) (by decide) (fun f' hf => ⟨rfl, fin f' (fun w => (hf w).1)⟩)⟩⟩
theorem p_6 {a1 sa sk sf sc sz : Int32} (hc : evn sc) (hq : ∀ a : Int32, -1 ≤ a.toInt → a.toInt ≤ 5000 → Q none (a, sk, sf, sc, sz)) : w_6_0 T P a1 sa sk sf sc sz Q := by
  have z0 : (0 : Int32).toInt = 0 := by decide
  obtain ⟨c1, c2, c3⟩ := hc
  intro x6 _ _ x12 _ _ x18 _ _ x24 _ x25 _ x26
  refine ⟨fun b1 b2 b3 ta tk tf tc tz => tk = sk ∧ tf = sf ∧ tc = sc ∧ tz = sz ∧ 0 ≤ b3.toInt ∧ b3.toInt ≤ 7, fun _ _ b3 _ _ _ _ _ => (7 - b3.toInt).toNat, ⟨rfl, rfl, rfl, rfl, by omega, by omega⟩, ?_⟩
  rintro b1 b2 b3 ta tk tf tc tz ⟨rfl, rfl, rfl, rfl, i1, i2⟩
  intro x1 h1
  refine ⟨fun _ x7 q1 q2 x8 _ x9 _ x10 e10 => ?_, fun n1 x16 x17 _ x18 _ x19 _ x25 e25 => ?_⟩
  · have e10 := e10 c2
    exact ⟨by omega, hq x7 q1 q2⟩
  · have e25 := e25 (by omega)
    exact ⟨⟨rfl, rfl, rfl, rfl, by omega, by omega⟩, by dsimp only; omega⟩
theorem p_128 (hs : SLs (T 1)) {sa sk sf sc sz : Int32} (h1 : 0 ≤ sk.toInt) (h2 : sk.toInt ≤ 1000000000) (hq : ∀ k f : Int32, sk.toInt ≤ k.toInt → k.toInt ≤ sk.toInt + 60000000 → (f.toInt = 0 → sf.toInt = 0) → Q none (sa, k, f, sc, sz)) : w_128_0 T P sa sk sf sc sz Q := by
  have z0 : (0 : Int32).toInt = 0 := by decide
  refine ⟨fun b2 ta tk tf tc tz => ta = sa ∧ tc = sc ∧ tz = sz ∧ 0 ≤ b2.toInt ∧ b2.toInt ≤ 84 ∧ sk.toInt ≤ tk.toInt ∧ (tf.toInt = 0 → sf.toInt = 0) ∧ (tf.toInt = 0 → tk.toInt ≤ sk.toInt + 600000 * b2.toInt) ∧ tk.toInt ≤ sk.toInt + 600000 * b2.toInt + 4691, fun b2 _ _ _ _ _ => (84 - b2.toInt).toNat, ⟨rfl, rfl, rfl, by omega, by omega, by omega, id, fun _ => by omega, by omega⟩, ?_⟩
  rintro b2 ta tk tf tc tz ⟨rfl, rfl, rfl, i1, i2, i3, i4, i5, i6⟩
  have out : w_128_56 T P b2 ta tk tf tc tz Q := hq tk tf i3 (by omega) i4
  intro x6 _ h6
  refine ⟨fun _ => out, fun n1 => ⟨fun _ => out, fun hf x12 _ _ => ?_⟩⟩
  have j5 := i5 hf
  have at29 : ∀ f' : Int32, (f'.toInt = 0 → tf.toInt = 0) → w_128_29 T P (fun b2' sa' sk' sf' sc' sz' => (sa' = ta ∧ sc' = tc ∧ sz' = tz ∧ 0 ≤ b2'.toInt ∧ b2'.toInt ≤ 84 ∧ sk.toInt ≤ sk'.toInt ∧ (sf'.toInt = 0 → sf.toInt = 0) ∧ (sf'.toInt = 0 → sk'.toInt ≤ sk.toInt + 600000 * b2'.toInt) ∧ sk'.toInt ≤ sk.toInt + 600000 * b2'.toInt + 4691) ∧ (84 - b2'.toInt).toNat < (84 - b2.toInt).toNat) b2 x12 ta tk f' tc tz Q := by
    intro f' hf' x11 q1 q2
    refine ⟨fun c2 c3 c4 ua uk uf uc uz => c2 = b2 ∧ ua = ta ∧ uc = tc ∧ uz = tz ∧ x11.toInt ≤ c4.toInt ∧ c4.toInt ≤ 5000 ∧ tk.toInt ≤ uk.toInt ∧ (uf.toInt = 0 → sf.toInt = 0) ∧ (uf.toInt = 0 → uk.toInt ≤ tk.toInt + 60 * (c4.toInt - x11.toInt)) ∧ uk.toInt ≤ tk.toInt + 60 * (c4.toInt - x11.toInt) + 4691, fun _ _ c4 _ _ _ _ _ => (5000 - c4.toInt).toNat, ⟨rfl, rfl, rfl, rfl, by omega, by omega, by omega, fun w => i4 (hf' w), fun _ => by omega, by omega⟩, ?_⟩
    rintro c2 c3 c4 ua uk uf uc uz ⟨rfl, rfl, rfl, rfl, l1, l2, l3, l4, l5, l6⟩
    have nxt : ∀ R : Int32 → Int32 → Int32 → Int32 → Int32 → Int32 → Prop, (∀ x1 : Int32, x1.toInt = c2.toInt + 1 → R x1 ua uk uf uc uz) → w_128_54 T P R c2 c3 c4 ua uk uf uc uz Q := fun R hR x1 e1 => hR x1 (e1 (by omega))
    have fin : w_128_54 T P (fun b2' sa' sk' sf' sc' sz' => (sa' = ua ∧ sc' = uc ∧ sz' = uz ∧ 0 ≤ b2'.toInt ∧ b2'.toInt ≤ 84 ∧ sk.toInt ≤ sk'.toInt ∧ (sf'.toInt = 0 → sf.toInt = 0) ∧ (sf'.toInt = 0 → sk'.toInt ≤ sk.toInt + 600000 * b2'.toInt) ∧ sk'.toInt ≤ sk.toInt + 600000 * b2'.toInt + 4691) ∧ (84 - b2'.toInt).toNat < (84 - c2.toInt).toNat) c2 c3 c4 ua uk uf uc uz Q := nxt _ (fun x1 e1 => ⟨⟨rfl, rfl, rfl, by omega, by omega, by omega, l4, fun w => by have := l5 w; omega, by omega⟩, by omega⟩)
    intro y6 _ hy6
    refine ⟨fun _ => fin, fun n2 => ⟨fun _ => fin, fun hf2 => hs _ _ _ _ _ _ _ hf2 (by omega) (by omega) (fun k f k1 k2 k3 => ⟨rfl, fun x13 e13 => ?_⟩)⟩⟩
    have e13 := e13 (by omega)
    have := l5 hf2
    exact ⟨⟨rfl, rfl, rfl, rfl, by omega, by omega, by omega, fun _ => l4 hf2, fun w => by have := k3 w; omega, by omega⟩, by dsimp only; omega⟩
  exact ⟨fun _ => at29 tf id, fun n12 x13 e13 => ⟨by have := e13 (by omega); omega, fun sf16 h16 => at29 sf16 h16⟩⟩
theorem p_5 (hb : BL (T 1) P) (hcl : CL (T 1) P) (hkl : KL (T 1)) (hef : EF (T 1)) (hv : VL (T 1) 1) {sa sk sf sc sz : Int32} (h1 : 0 ≤ sk.toInt) (h2 : sk.toInt ≤ 70000000) (hc : evn sc) (hq : ∀ a k f c : Int32, 0 ≤ k.toInt → k.toInt ≤ 1200000000 → Q none (a, k, f, c, sz)) : w_5_0 T P sa sk sf sc sz Q := by
  have z0 : (0 : Int32).toInt = 0 := by decide
  refine ⟨fun b2 ta tk tf tc tz => tz = sz ∧ 0 ≤ b2.toInt ∧ b2.toInt ≤ 60 ∧ evn tc ∧ 0 ≤ tk.toInt ∧ tk.toInt ≤ sk.toInt + 18013500 * b2.toInt + 20000 ∧ (tf.toInt = 0 → tk.toInt ≤ sk.toInt + 18013500 * b2.toInt), fun b2 _ _ _ _ _ => (60 - b2.toInt).toNat, ⟨rfl, by omega, by omega, hc, by omega, by omega, fun _ => by omega⟩, ?_⟩
  rintro b2 ta tk tf tc tz ⟨rfl, i1, i2, i3, i4, i5, i6⟩
  have at143 : ∀ (a2 t1 ua uk uf uc : Int32), evn uc → 0 ≤ uk.toInt → uk.toInt ≤ 1200000000 → w_5_143 T P a2 t1 ua uk uf uc tz Q := fun a2 t1 ua uk uf uc q1 q2 q3 => hcl _ _ _ _ _ _ _ _ _ _ _ _ q1 (by decide) (by decide) (by decide) (fun c _ => ⟨rfl, hq _ _ _ c q2 q3⟩)
  have at95 : w_5_95 T P b2 ta tk tf tc tz Q := by
    refine ⟨fun hf x6 q1 q2 x7 _ => ?_, fun _ => hq _ _ _ _ i4 (by omega)⟩
    have j6 := i6 hf
    refine hv _ _ _ _ _ _ (sk.toInt + 18013500 * b2.toInt + 18013500) _ (by decide) ⟨hf, by omega, by omega, i4, by omega, by omega, i3⟩ (fun r a k f c hr => ⟨r, rfl, fun _ => at143 _ _ _ _ _ _ hr.2.2.1 hr.1 (by have := hr.2.1; omega), fun _ => hkl _ _ _ _ _ _ _ hr.1 (by have := hr.2.1; omega) (fun r' k' k1 k2 => ⟨r', rfl, at143 _ _ _ _ _ _ hr.2.2.1 (by have := hr.1; omega) (by have := hr.2.1; omega)⟩)⟩)
  intro x6 _ h6
  refine ⟨fun _ => at95, fun n1 => ⟨fun _ => at95, fun hf => hef _ _ _ _ _ _ _ i3 (fun a q1 q2 => ⟨rfl, ?_⟩)⟩⟩
  have j6 := i6 hf
  refine hv _ _ _ _ _ _ (sk.toInt + 18013500 * b2.toInt + 18013500) _ (by decide) ⟨hf, by omega, by omega, i4, by omega, by omega, i3⟩ (fun r a' k f c hr => ⟨r, rfl, fun x20 x26 _ _ x27 x33 _ _ x34 _ x35 x41 _ _ x42 _ x48 _ _ => ?_⟩)
  have at84 : ∀ (a3 a4 a5 a6 f' : Int32), (f'.toInt = 0 → f.toInt = 0) → w_5_84 T P (fun b2' sa' sk' sf' sc' sz' => (sz' = tz ∧ 0 ≤ b2'.toInt ∧ b2'.toInt ≤ 60 ∧ evn sc' ∧ 0 ≤ sk'.toInt ∧ sk'.toInt ≤ sk.toInt + 18013500 * b2'.toInt + 20000 ∧ (sf'.toInt = 0 → sk'.toInt ≤ sk.toInt + 18013500 * b2'.toInt)) ∧ (60 - b2'.toInt).toNat < (60 - b2.toInt).toNat) b2 a3 a4 a5 a6 a' k f' c tz Q := by
    intro a3 a4 a5 a6 f' hf'
    refine hcl _ _ _ _ _ _ _ _ _ _ _ _ hr.2.2.1 (by decide) (by decide) (by decide) (fun c' hc' => ⟨rfl, fun x7 e7 => ?_⟩)
    have e7 := e7 (by omega)
    have g1 := hr.1
    have g2 := hr.2.1
    exact ⟨⟨rfl, by omega, by omega, hc', g1, by omega, fun w => by have := hr.2.2.2 (hf' w); omega⟩, by omega⟩
  exact ⟨fun _ => at84 _ _ _ _ f id, fun _ x54 q3 q4 => hb _ _ _ _ _ _ _ _ q3 (by omega) (fun f' hf' => ⟨rfl, at84 _ _ _ _ f' (fun w => (hf' w).1)⟩)⟩
theorem p_1 (ht : TL (T 1) 1) {a2 sa sk sf sc sz : Int32} (h2 : a2.toInt ≤ 2) (h1 : 0 ≤ sk.toInt) (h3 : sk.toInt ≤ 1200000000) (hq : ∀ r f : Int32, Q (some (.int r)) (sa, sk, f, sc, sz)) : w_1_0 T P a2 sa sk sf sc sz Q := by
  have z0 : (0 : Int32).toInt = 0 := by decide
  have at61 : wl_1_61 T P a2 0 sk 0 sa sk 0 sc sz Q := by
    refine ⟨fun b2 b3 b4 b5 ta tk tf tc tz => b2 = a2 ∧ b4 = sk ∧ ta = sa ∧ tc = sc ∧ tz = sz ∧ 0 ≤ b5.toInt ∧ b5.toInt ≤ 2 ∧ 0 ≤ b3.toInt ∧ b3.toInt ≤ 5000 + 10 * b5.toInt ∧ 0 ≤ tk.toInt ∧ tk.toInt ≤ sk.toInt + 4691 * b5.toInt, fun _ _ _ b5 _ _ _ _ _ => (2 - b5.toInt).toNat, ⟨rfl, rfl, rfl, rfl, rfl, by omega, by omega, by omega, by omega, by omega, by omega⟩, ?_⟩
    rintro b2 b3 b4 b5 ta tk tf tc tz ⟨rfl, rfl, rfl, rfl, rfl, i1, i2, i3, i4, i5, i6⟩
    have out : w_1_97 T P b2 b3 b4 b5 ta tk tf tc tz Q := ⟨by omega, fun _ => hq _ _, fun _ => hq _ _⟩
    refine ⟨fun _ => out, fun n1 => ⟨fun _ => out, fun hf => ?_⟩⟩
    have at77 : ∀ t1 : Int32, w_1_77 T P (fun a2' a3' a4' a5' sa' sk' sf' sc' sz' => (a2' = b2 ∧ a4' = b4 ∧ sa' = ta ∧ sc' = tc ∧ sz' = tz ∧ 0 ≤ a5'.toInt ∧ a5'.toInt ≤ 2 ∧ 0 ≤ a3'.toInt ∧ a3'.toInt ≤ 5000 + 10 * a5'.toInt ∧ 0 ≤ sk'.toInt ∧ sk'.toInt ≤ b4.toInt + 4691 * a5'.toInt) ∧ (2 - a5'.toInt).toNat < (2 - b5.toInt).toNat) b2 b3 b4 b5 tk t1 ta tk tf tc tz Q := by
      intro t1
      refine ht _ _ _ _ _ _ _ _ (by decide) hf i5 (by omega) (by omega) (by omega) (fun r k f r1 r2 r3 r4 r5 => ⟨r, rfl, fun x8 e8 => ⟨⟨i5, by have := tk.toInt_lt; omega⟩, fun sf11 _ x14 e14 => ?_⟩⟩)
      have e8 := e8 (by omega)
      have e14 := e14 (by omega)
      exact ⟨⟨rfl, rfl, rfl, rfl, rfl, by omega, by omega, by omega, by omega, by omega, by omega⟩, by omega⟩
    exact ⟨fun _ x1 => at77 x1, fun _ => at77 tk⟩
  refine ⟨fun b2 b3 b4 ta tk tf tc tz => b2 = a2 ∧ ta = sa ∧ tk = sk ∧ tc = sc ∧ tz = sz ∧ 0 ≤ b4.toInt ∧ b4.toInt ≤ 2, fun _ _ b4 _ _ _ _ _ => (2 - b4.toInt).toNat, ⟨rfl, rfl, rfl, rfl, rfl, by omega, by omega⟩, ?_⟩
  rintro b2 b3 b4 ta tk tf tc tz ⟨rfl, rfl, rfl, rfl, rfl, i1, i2⟩
  refine ⟨fun _ x1 _ _ => ⟨fun _ => at61, fun _ => hq _ _⟩, fun n1 x7 => ⟨fun _ => hq _ _, fun _ x8 _ x9 _ => ?_⟩⟩
  have at29 : ∀ t1 : Int32, w_1_29 T P (fun a2' a3' a4' sa' sk' sf' sc' sz' => (a2' = b2 ∧ sa' = ta ∧ sk' = tk ∧ sc' = tc ∧ sz' = tz ∧ 0 ≤ a4'.toInt ∧ a4'.toInt ≤ 2) ∧ (2 - a4'.toInt).toNat < (2 - b4.toInt).toNat) b2 x7 b4 x8 t1 ta tk tf tc tz Q := by
    intro t1
    refine ⟨fun _ x1 _ x2 e2 => ?_, fun _ => hq _ _⟩
    have e2 := e2 (by omega)
    exact ⟨⟨rfl, rfl, rfl, rfl, rfl, by omega, by omega⟩, by omega⟩
  exact ⟨fun _ => at29 0, fun _ => at29 59⟩
theorem p_37 (hz : ZL (T 0) P) {sa sk sf sc sz : Int32} (hq : Q none (sa, 18738, 0, 0, sz)) : w_37_0 T P sa sk sf sc sz Q := by
  have m1 : P + 24 ∈ [P + 24, P + 26, P + 28, P + 30, P + 32] := List.mem_cons_self
  have m2 : P + 26 ∈ [P + 24, P + 26, P + 28, P + 30, P + 32] := List.mem_cons_of_mem _ List.mem_cons_self
  have m3 : P + 28 ∈ [P + 24, P + 26, P + 28, P + 30, P + 32] := List.mem_cons_of_mem _ (List.mem_cons_of_mem _ List.mem_cons_self)
  have m4 : P + 30 ∈ [P + 24, P + 26, P + 28, P + 30, P + 32] := List.mem_cons_of_mem _ (List.mem_cons_of_mem _ (List.mem_cons_of_mem _ List.mem_cons_self))
  have m5 : P + 32 ∈ [P + 24, P + 26, P + 28, P + 30, P + 32] := List.mem_cons_of_mem _ (List.mem_cons_of_mem _ (List.mem_cons_of_mem _ (List.mem_cons_of_mem _ List.mem_cons_self)))
  exact (hz _ _ _ _ _ _).1 ⟨rfl, (hz _ _ _ _ _ _).1 ⟨rfl, (hz _ _ _ _ _ _).1 ⟨rfl, (hz _ _ _ _ _ _).1 ⟨rfl, (hz _ _ _ _ _ _).1 ⟨rfl, (hz _ _ _ _ _ _).2.1 ⟨rfl, hq⟩⟩ _ m5⟩ _ m4⟩ _ m3⟩ _ m2⟩ _ m1
theorem p_152 (hz : ZL (T 0) P) (ha : AR (T 0) P) {a1 sa sk sf sc sz : Int32} (h2 : a1.toInt ≤ 2) (h1 : 0 ≤ sk.toInt) (h3 : sk.toInt ≤ 1200000000) (hq : ∀ r f : Int32, Q (some (.int r)) (sa, sk, f, sc, 0)) : w_152_0 T P a1 sa sk sf sc sz Q :=
  (hz _ _ _ _ _ _).2.2 ⟨rfl, fun x12 _ _ => ⟨fun _ => hq _ _, fun _ => ha _ _ _ _ _ _ _ h2 h1 h3 (fun r f => ⟨r, rfl, hq r f⟩)⟩⟩
theorem p_141 (hr : RTs (T 0)) {sa sk sf sc sz : Int32} (h1 : 0 ≤ sk.toInt) (h3 : sk.toInt ≤ 1200000000) (hq : ∀ r f : Int32, Q (some (.int r)) (sa, sk, f, sc, 0)) : w_141_0 T P sa sk sf sc sz Q :=
  hr _ _ _ _ _ _ _ (by decide) h1 h3 (fun r f => ⟨r, rfl, fun _ x8 x9 x15 _ _ => ⟨fun _ => ⟨fun _ => hq _ _, fun _ => hq _ _⟩, fun _ => hq _ _⟩, fun _ => hq _ _⟩)
theorem p_147 (hr : RTs (T 0)) {sa sk sf sc sz : Int32} (h1 : 0 ≤ sk.toInt) (h3 : sk.toInt ≤ 1200000000) (hq : ∀ r f : Int32, Q (some (.int r)) (sa, sk, f, sc, 0)) : w_147_0 T P sa sk sf sc sz Q :=
  hr _ _ _ _ _ _ _ (by decide) h1 h3 (fun r f => ⟨r, rfl, fun _ x8 _ _ => ⟨fun _ x9 x15 => ⟨fun _ => hq _ _, fun _ => hq _ _⟩, fun _ => hq _ _⟩, fun _ => hq _ _⟩)
theorem p_140 (hg : BG (T 0) P) (hz : ZL (T 0) P) (ht : TA (T 1) P) (hc : CKs (T 1) P) {sa sk sf sc sz : Int32} (hq : ∀ r a k f c : Int32, 0 ≤ k.toInt → k.toInt ≤ 1200000000 → Q (some (.int r)) (a, k, f, c, 0)) : w_140_0 T P sa sk sf sc sz Q := by
  have e1 : (18738 : Int32).toInt = 18738 := by decide
  refine hg _ _ _ _ _ _ ⟨rfl, (hz _ _ _ _ _ _).2.2 ⟨rfl, fun sf15 _ sf20 _ => ht _ _ _ _ _ _ (by omega) (by omega) (fun k f k1 k2 _ => ⟨rfl, fun sf31 _ sf36 _ => hc _ _ _ _ _ _ (by omega) (by omega) ⟨by decide, by decide, by decide⟩ (fun a k f c q1 q2 => ⟨rfl, fun _ => hq _ _ _ _ _ q1 q2, fun _ => hq _ _ _ _ _ q1 q2⟩)⟩)⟩⟩
theorem p_72 {a1 sa sk sf sc sz : Int32} (hb : 1 ≤ a1.toInt) (h1 : 0 ≤ sa.toInt) (h2 : sa.toInt ≤ 5000) (hq : ∀ r a : Int32, 0 ≤ r.toInt → r.toInt ≤ 1 → 0 ≤ a.toInt → a.toInt ≤ 5000 → Q (some (.int r)) (a, sk, sf, sc, sz)) : w_72_0 T P a1 sa sk sf sc sz Q := by
  have no : w_72_13 T P a1 sa sk sf sc sz Q := ⟨fun _ => ⟨Or.inl (by decide), hq _ _ (by decide) (by decide) h1 h2⟩, fun w => absurd (by decide) w⟩
  refine ⟨fun _ => no, fun _ x1 e1 => ⟨fun _ => no, fun e => ⟨fun w => absurd w (by decide), fun _ y1 f1 _ => ?_⟩⟩⟩
  have e1 := e1 (by omega)
  have f1 := f1 (by omega)
  exact ⟨by omega, Or.inr (by decide), hq _ _ (by decide) (by decide) (by omega) (by omega)⟩
theorem p_73 {a1 sa sk sf sc sz : Int32} (h1 : 0 ≤ sa.toInt) (h2 : sa.toInt ≤ 5000) (h3 : 1 ≤ a1.toInt ∨ ¬ sf.toInt = 0 ∨ sa.toInt ≤ 4999) (hq : ∀ a f : Int32, 0 ≤ a.toInt → a.toInt ≤ 5000 → (f.toInt = 0 → sf.toInt = 0) → (f.toInt = 0 → 1 ≤ a1.toInt → a.toInt ≤ 4002) → Q none (a, sk, f, sc, sz)) : w_73_0 T P a1 sa sk sf sc sz Q := by
  refine ⟨fun nf => ⟨fun _ => hq _ _ h1 h2 id (fun w => absurd w nf), fun w => absurd w nf⟩, fun hf x1 e1 => ⟨fun e => ⟨fun w => absurd hf w, fun _ y1 f1 _ => ?_⟩, fun _ x2 g2 x3 e3 _ x4 e4 _ => ?_⟩⟩
  · have f1 := f1 (by omega)
    by_cases ha : 1 ≤ a1.toInt
    · have e1 := e1 (by omega)
      exact ⟨by omega, hq _ _ (by omega) (by omega) id (fun _ _ => by omega)⟩
    · have : sa.toInt ≤ 4999 := by
        rcases h3 with h3 | h3 | h3
        · exact absurd h3 ha
        · exact absurd hf h3
        · exact h3
      exact ⟨by omega, hq _ _ (by omega) (by omega) id (fun _ w => absurd w ha)⟩
  · have e3 := e3 (by omega)
    have e4 := e4 (by omega)
    have n4 : ¬ x4.toInt = 0 := by omega
    exact ⟨n4, fun _ => hq _ _ h1 h2 (fun w => absurd w n4) (fun w => absurd w n4), fun w => absurd w n4⟩
theorem p_74 {a1 sa sk sf sc sz : Int32} (h1 : 0 ≤ sa.toInt) (h2 : sa.toInt ≤ 5000) (hq : ∀ a f : Int32, 0 ≤ a.toInt → a.toInt ≤ 5000 → (f.toInt = 0 → sf.toInt = 0) → Q none (a, sk, f, sc, sz)) : w_74_0 T P a1 sa sk sf sc sz Q := by
  have f50 : ∀ f : Int32, ¬ f.toInt = 0 → w_74_50 T P a1 sa sk f sc sz Q := fun f nf => ⟨fun _ => hq _ _ h1 h2 (fun w => absurd w nf), fun w => absurd w nf⟩
  have at26 : ∀ f : Int32, (f.toInt = 0 → sf.toInt = 0) → w_74_26 T P a1 sa sk f sc sz Q := by
    intro f hfs
    refine ⟨fun nf => f50 f nf, fun hf x1 e1 => ⟨fun e => ⟨fun w => absurd hf w, fun _ y1 f1 _ => ?_⟩, fun _ x2 g2 x3 e3 _ x4 e4 _ => ?_⟩⟩
    · have e1 := e1 (by omega)
      have f1 := f1 (by omega)
      exact ⟨by omega, hq _ _ (by omega) (by omega) hfs⟩
    · have e3 := e3 (by omega)
      have e4 := e4 (by omega)
      have n4 : ¬ x4.toInt = 0 := by omega
      exact ⟨n4, f50 _ n4⟩
  refine ⟨fun _ => at26 sf id, fun hf => ⟨fun _ => at26 sf id, fun _ x1 _ => ⟨fun _ => at26 sf id, fun _ x2 g2 x3 e3 _ x4 e4 _ => ?_⟩⟩⟩
  have e3 := e3 (by omega)
  have e4 := e4 (by omega)
  have n4 : ¬ x4.toInt = 0 := by omega
  exact ⟨n4, at26 x4 (fun w => absurd w n4)⟩
theorem p_61 (hx : EX (T 1)) {sa sk sf sc sz : Int32} (hq : ∀ a f : Int32, (f.toInt = 0 → sf.toInt = 0) → Q none (a, sk, f, sc, sz)) : w_61_0 T P sa sk sf sc sz Q := by
  have z0 : (0 : Int32).toInt = 0 := by decide
  refine ⟨fun b2 ta tk tf tc tz => tk = sk ∧ tc = sc ∧ tz = sz ∧ 0 ≤ b2.toInt ∧ b2.toInt ≤ 4000 ∧ 0 ≤ ta.toInt ∧ ta.toInt ≤ 5000 ∧ (tf.toInt = 0 → sf.toInt = 0), fun b2 _ _ _ _ _ => (4000 - b2.toInt).toNat, ⟨rfl, rfl, rfl, by omega, by omega, by omega, by omega, id⟩, ?_⟩
  rintro b2 ta tk tf tc tz ⟨rfl, rfl, rfl, i1, i2, i3, i4, i5⟩
  have out : w_61_46 T P b2 ta tk tf tc tz Q := by
    refine hx _ _ _ _ _ _ _ i3 i4 (Or.inl (by decide)) (fun a f a1 a2 hf _ => ⟨rfl, ⟨a1, a2⟩, fun sa7 q1 q2 sf9 h9 => hx _ _ _ _ _ _ _ q1 q2 (Or.inl (by decide)) (fun a' f' b1 b2' hf' hg => ⟨rfl, hx _ _ _ _ _ _ _ b1 b2' ?_ (fun a'' f'' c1 c2 hf'' _ => ⟨rfl, hq _ _ (fun w => i5 (hf (h9 (hf' (hf'' w)))))⟩)⟩)⟩)
    by_cases w : f'.toInt = 0
    · exact Or.inr (Or.inr (by have := hg w (by decide); omega))
    · exact Or.inr (Or.inl w)
  have nxt : ∀ ua uf : Int32, 0 ≤ ua.toInt → ua.toInt ≤ 5000 → (uf.toInt = 0 → tf.toInt = 0) → b2.toInt < 4000 → w_61_44 T P (fun b2' sa' sk' sf' sc' sz' => (sk' = tk ∧ sc' = tc ∧ sz' = tz ∧ 0 ≤ b2'.toInt ∧ b2'.toInt ≤ 4000 ∧ 0 ≤ sa'.toInt ∧ sa'.toInt ≤ 5000 ∧ (sf'.toInt = 0 → sf.toInt = 0)) ∧ (4000 - b2'.toInt).toNat < (4000 - b2.toInt).toNat) b2 ua tk uf tc tz Q := by
    intro ua uf q1 q2 q3 q4 x1 e1
    have e1 := e1 (by omega)
    exact ⟨⟨rfl, rfl, rfl, by omega, by omega, q1, q2, fun w => i5 (q3 w)⟩, by omega⟩
  exact ⟨fun _ => out, fun n1 => ⟨fun _ => out, fun _ x1 _ => ⟨fun _ => out, fun _ x2 _ => ⟨fun _ sa3 q1 q2 sf5 h5 => nxt _ _ q1 q2 h5 (by omega), fun _ sa8 q1 q2 sf10 h10 => nxt _ _ q1 q2 h10 (by omega)⟩⟩⟩⟩
theorem p_20 {a1 sa sk sf sc sz : Int32} (he : a1.toInt % 2 = 0) (hq : Q none (sa, sk, sf, sc, sz)) : w_20_0 T P a1 sa sk sf sc sz Q := by
  intro x1 _ _ x2 _ x3 _ _ x4 _
  refine ⟨fun _ => hq, fun _ x10 x11 _ _ x12 _ _ x13 x14 _ _ x15 => hq, fun _ x26 => hq, fun _ x32 _ m32 x33 h33 => ⟨?_, hq⟩, fun _ x44 _ _ => ⟨fun _ => hq, fun _ x50 x51 _ _ x52 _ _ x53 => hq⟩, fun _ => hq, fun _ x64 _ _ x65 _ => hq⟩
  have := h33 (by omega)
  have := x33.le_toInt
  omega
theorem p_19 (hm : MSs (T 0)) {sa sk sf sc sz : Int32} (hq : Q none (sa, sk, sf, sc, sz)) : w_19_0 T P sa sk sf sc sz Q := by
  have z0 : (0 : Int32).toInt = 0 := by decide
  refine ⟨fun b1 ta tk tf tc tz => ta = sa ∧ tk = sk ∧ tf = sf ∧ tc = sc ∧ tz = sz ∧ 0 ≤ b1.toInt ∧ b1.toInt ≤ 1000000, fun b1 _ _ _ _ _ => (1000000 - b1.toInt).toNat, ⟨rfl, rfl, rfl, rfl, rfl, by omega, by omega⟩, ?_⟩
  rintro b1 ta tk tf tc tz ⟨rfl, rfl, rfl, rfl, rfl, i1, i2⟩
  refine ⟨fun _ => hq, fun n1 x1 => ⟨fun _ => hq, fun _ x2 x3 _ m3 x4 x5 _ _ => hm _ _ _ _ _ _ _ (by omega) ⟨rfl, fun x12 e12 => ?_⟩⟩⟩
  have e12 := e12 (by omega)
  exact ⟨⟨rfl, rfl, rfl, rfl, rfl, by omega, by omega⟩, by dsimp only; omega⟩
end MR
