/-! ===== the class: E checked: how far `at` and `kept` go ===== -/
def VP (X : Int) (sa sk sf sc : Int32) : Prop := sf.toInt = 0 ∧ -1 ≤ sa.toInt ∧ sa.toInt ≤ 5100 ∧ 0 ≤ sk.toInt ∧ sk.toInt + 4500 * (4002 - min sa.toInt 4002) ≤ X ∧ X ≤ 1200000000 ∧ evn sc
def VQ (X lo hi : Int) (a k f c : Int32) : Prop := 0 ≤ k.toInt ∧ k.toInt ≤ X + 20000 ∧ evn c ∧ (f.toInt = 0 → lo ≤ a.toInt ∧ a.toInt ≤ hi ∧ k.toInt + 4500 * (4002 - min a.toInt 4002) ≤ X)
theorem VQ_f {X lo hi : Int} {a k f f' c : Int32} (h : VQ X lo hi a k f c) (hf : f'.toInt = 0 → f.toInt = 0) : VQ X lo hi a k f' c := ⟨h.1, h.2.1, h.2.2.1, fun w => h.2.2.2 (hf w)⟩
theorem VQ_c {X lo hi : Int} {a k f c c' : Int32} (h : VQ X lo hi a k f c) (hc : evn c') : VQ X lo hi a k f c' := ⟨h.1, h.2.1, hc, h.2.2.2⟩
theorem VQ_b {X lo hi lo' hi' : Int} {a k f c : Int32} (h : VQ X lo hi a k f c) (h1 : lo' ≤ lo) (h2 : hi ≤ hi') : VQ X lo' hi' a k f c := ⟨h.1, h.2.1, h.2.2.1, fun w => by have := h.2.2.2 w; omega⟩
/-- variable, field -/
def VA (T : cTy) : Prop := ∀ (sa sk sf sc sz : Int32) (Q : Option Value → sW → Prop), evn sc → -1 ≤ sa.toInt → sa.toInt ≤ 5200 → (∀ r a f c : Int32, a.toInt = sa.toInt + 1 → evn c → (f.toInt = 0 → sf.toInt = 0) → Q (some (.int r)) (a, sk, f, c, sz)) → T 9 [.ref 84] (sa, sk, sf, sc, sz) Q
def FA (T : cTy) : Prop := ∀ (b1 b2 sa sk sf sc sz : Int32) (Q : Option Value → sW → Prop), evn sc → -1 ≤ sa.toInt → sa.toInt ≤ 5200 → (∀ r a f c : Int32, a.toInt = sa.toInt + 1 → evn c → (f.toInt = 0 → sf.toInt = 0) → Q (some (.int r)) (a, sk, f, c, sz)) → T 12 [.ref 84, .int b1, .int b2] (sa, sk, sf, sc, sz) Q
def VL (T : cTy) (w : Int) : Prop := ∀ (x sa sk sf sc sz : Int32) (X : Int) (Q : Option Value → sW → Prop), x.toInt = w → VP X sa sk sf sc → (∀ r a k f c : Int32, VQ X sa.toInt (max (sa.toInt + 1) (4220 + 20 * (11 - w))) a k f c → Q (some (.int r)) (a, k, f, c, sz)) → T 7 [.ref 84, .int x] (sa, sk, sf, sc, sz) Q
def LA (T : cTy) (w : Int) : Prop := ∀ (x sa sk sf sc sz : Int32) (X : Int) (Q : Option Value → sW → Prop), x.toInt = w → VP X sa sk sf sc → sa.toInt + 1 < 4002 → (∀ r a k f c : Int32, VQ X sa.toInt (4220 + 20 * (11 - w)) a k f c → Q (some (.int r)) (a, k, f, c, sz)) → T 10 [.ref 84, .int x] (sa, sk, sf, sc, sz) Q
def MA (T : cTy) (w : Int) : Prop := ∀ (b x sa sk sf sc sz : Int32) (X : Int) (Q : Option Value → sW → Prop), x.toInt = w → VP X sa sk sf sc → sa.toInt + 1 < 4002 → (∀ r a k f c : Int32, VQ X sa.toInt (4220 + 20 * (11 - w)) a k f c → Q (some (.int r)) (a, k, f, c, sz)) → T 14 [.ref 84, .int b, .int x] (sa, sk, sf, sc, sz) Q
def BA (T : cTy) (w : Int) : Prop := ∀ (b x sa sk sf sc sz : Int32) (X : Int) (Q : Option Value → sW → Prop), x.toInt = w → VP X sa sk sf sc → sa.toInt < 4002 → (∀ r a k f c : Int32, VQ X sa.toInt (4220 + 20 * (11 - w)) a k f c → Q (some (.int r)) (a, k, f, c, sz)) → T 8 [.ref 84, .int b, .int x] (sa, sk, sf, sc, sz) Q
def PTs (T : cTy) (w : Int) : Prop := ∀ (b1 b2 b3 b4 b5 x sa sk sf sc sz : Int32) (X : Int) (Q : Option Value → sW → Prop), x.toInt = w → X ≤ 1200000000 → VQ X (-1) 4300 sa sk sf sc → (sf.toInt = 0 → b2.toInt ≤ 7) → (∀ a k f c : Int32, VQ X sa.toInt (max (sa.toInt + 16) (4220 + 20 * (10 - w) + 16)) a k f c → Q none (a, k, f, c, sz)) → T 11 [.ref 84, .int b1, .int b2, .int b3, .int b4, .int b5, .int x] (sa, sk, sf, sc, sz) Q
section BD
variable {T : Nat → cTy} {P : Nat} {Q : Option Value → sW → Prop}
theorem p_9 (hb : BL (T 0) P) (hcl : CL (T 0) P) {sa sk sf sc sz : Int32} (hc : evn sc) (h1 : -1 ≤ sa.toInt) (h2 : sa.toInt ≤ 5200) (hq : ∀ r a f c : Int32, a.toInt = sa.toInt + 1 → evn c → (f.toInt = 0 → sf.toInt = 0) → Q (some (.int r)) (a, sk, f, c, sz)) : w_9_0 T P sa sk sf sc sz Q := by
  have z0 : (0 : Int32).toInt = 0 := by decide
  have at55 : ∀ (a1 a2 t0 x2 : Int32), x2.toInt = sa.toInt + 1 → t0.toInt ≤ 5000 → w_9_55 T P a1 a2 t0 x2 sk sf sc sz Q := by
    intro a1 a2 t0 x2 e2 ht x1 x7 _ _ x8 x14 _ _ x15 _
    refine ⟨fun b1 b2 b3 b4 b5 ta tk tf tc tz => b3 = t0 ∧ ta = x2 ∧ tk = sk ∧ tf = sf ∧ tc = sc ∧ tz = sz ∧ 0 ≤ b5.toInt ∧ b5.toInt ≤ 5000, fun _ _ _ _ b5 _ _ _ _ _ => (5000 - b5.toInt).toNat, ⟨rfl, rfl, rfl, rfl, rfl, rfl, by omega, by omega⟩, ?_⟩
    rintro b1 b2 b3 b4 b5 ta tk tf tc tz ⟨rfl, rfl, rfl, rfl, rfl, rfl, i1, i2⟩
    refine ⟨fun _ => hb _ _ _ _ _ _ _ _ (by decide) (by decide) (fun f hf => ⟨rfl, fun x7 => hq _ _ f _ e2 hc (fun w => (hf w).1)⟩), fun n1 y8 _ y14 _ _ y15 _ => ⟨fun _ y16 e16 => ?_, fun _ y17 _ => hcl _ _ _ _ _ _ _ _ _ _ _ _ hc (by decide) (by decide) (by decide) (fun c hc' => ⟨rfl, fun _ _ x30 _ _ => hq _ _ _ c e2 hc' id⟩)⟩⟩
    have e16 := e16 (by omega)
    exact ⟨⟨rfl, rfl, rfl, rfl, rfl, rfl, by omega, by omega⟩, by dsimp only; omega⟩
  have at43 : ∀ (a1 a2 x2 : Int32), x2.toInt = sa.toInt + 1 → w_9_43 T P a1 a2 x2 sk sf sc sz Q := by
    intro a1 a2 x2 e2 x1
    exact ⟨fun _ x2' x8 _ h8 => at55 a1 a2 x8 x2 e2 h8, fun _ => at55 a1 a2 0 x2 e2 (by decide)⟩
  intro x1 _ x2 e2 x3
  have e2 := e2 (by omega)
  exact ⟨fun _ => at43 x1 sa x2 e2, fun _ x4 x10 _ _ x11 _ => ⟨fun _ => at43 x1 sa x2 e2, fun _ => hcl _ _ _ _ _ _ _ _ _ _ _ _ hc (by decide) (by decide) (by decide) (fun c hc' => ⟨rfl, fun x18 => hq _ _ _ c e2 hc' id⟩)⟩⟩
theorem p_12 (hb : BL (T 0) P) (hcl : CL (T 0) P) {a1 a2 sa sk sf sc sz : Int32} (hc : evn sc) (h1 : -1 ≤ sa.toInt) (h2 : sa.toInt ≤ 5200) (hq : ∀ r a f c : Int32, a.toInt = sa.toInt + 1 → evn c → (f.toInt = 0 → sf.toInt = 0) → Q (some (.int r)) (a, sk, f, c, sz)) : w_12_0 T P a1 a2 sa sk sf sc sz Q := by
  have z0 : (0 : Int32).toInt = 0 := by decide
  intro x1 e1 x2 x8 _ _
  have e1 := e1 (by omega)
  refine ⟨fun _ => ?_, fun _ => hb _ _ _ _ _ _ _ _ (by decide) (by decide) (fun f hf => ⟨rfl, hq _ _ f _ e1 hc (fun w => (hf w).1)⟩)⟩
  refine ⟨fun b1 b2 b3 b4 b5 ta tk tf tc tz => ta = x1 ∧ tk = sk ∧ tf = sf ∧ tc = sc ∧ tz = sz ∧ 0 ≤ b5.toInt ∧ b5.toInt ≤ 5000, fun _ _ _ _ b5 _ _ _ _ _ => (5000 - b5.toInt).toNat, ⟨rfl, rfl, rfl, rfl, rfl, by omega, by omega⟩, ?_⟩
  rintro b1 b2 b3 b4 b5 ta tk tf tc tz ⟨rfl, rfl, rfl, rfl, rfl, i1, i2⟩
  intro x6 _ h6
  refine ⟨fun _ => hb _ _ _ _ _ _ _ _ (by decide) (by decide) (fun f hf => ⟨rfl, hq _ _ f _ e1 hc (fun w => (hf w).1)⟩), fun n1 x18 _ _ x19 _ x25 _ _ x26 _ x27 _ => ⟨fun _ x28 e28 => ?_, fun _ => hcl _ _ _ _ _ _ _ _ _ _ _ _ hc (by decide) (by decide) (by decide) (fun c hc' => ⟨rfl, fun f hf x40 => hq _ _ f c e1 hc' hf⟩)⟩⟩
  have e28 := e28 (by omega)
  exact ⟨⟨rfl, rfl, rfl, rfl, rfl, by omega, by omega⟩, by dsimp only; omega⟩
theorem p_11 (hb : BL (T 0) P) {w : Int} (hv : VL (T 0) (w + 1)) {a1 a2 a3 a4 a5 a6 sa sk sf sc sz : Int32} {X : Int} (e : a6.toInt = w) (hw : 1 ≤ w ∧ w ≤ 10) (hX : X ≤ 1200000000) (hp : VQ X (-1) 4300 sa sk sf sc) (h7 : sf.toInt = 0 → a2.toInt ≤ 7) (hq : ∀ a k f c : Int32, VQ X sa.toInt (max (sa.toInt + 16) (4220 + 20 * (10 - w) + 16)) a k f c → Q none (a, k, f, c, sz)) : w_11_0 T P a1 a2 a3 a4 a5 a6 sa sk sf sc sz Q := by
  have z0 : (0 : Int32).toInt = 0 := by decide
  have z1 : (1 : Int32).toInt = 1 := by decide
  intro x1 e1
  have key : ∀ (hi : Int), VQ X sa.toInt hi x1 sk sf sc ↔ VQ X sa.toInt hi x1 sk sf sc := fun _ => Iff.rfl
  have st : VQ X (sa.toInt + 1) (sa.toInt + 1) x1 sk sf sc := ⟨hp.1, hp.2.1, hp.2.2.1, fun w0 => by have := hp.2.2.2 w0; have := e1 (by omega); omega⟩
  refine ⟨fun b1 b2 b3 b4 b5 b6 b7 ta tk tf tc tz => b2 = a2 ∧ b6 = a6 ∧ tz = sz ∧ 0 ≤ b7.toInt ∧ b7.toInt ≤ 7 ∧ (tf.toInt = 0 → sf.toInt = 0) ∧ VQ X (sa.toInt + 1) (max (sa.toInt + 1 + 2 * b7.toInt) (4220 + 20 * (10 - w) + 2 * b7.toInt)) ta tk tf tc, fun _ _ _ _ _ _ b7 _ _ _ _ _ => (7 - b7.toInt).toNat, ⟨rfl, rfl, rfl, by omega, by omega, id, VQ_b st (by omega) (by omega)⟩, ?_⟩
  rintro b1 b2 b3 b4 b5 b6 b7 ta tk tf tc tz ⟨rfl, rfl, rfl, i1, i2, i3, i4⟩
  have out : w_11_87 T P b1 b2 b3 b4 b5 b6 b7 ta tk tf tc tz Q := fun y1 f1 => hq y1 tk tf tc ⟨i4.1, i4.2.1, i4.2.2.1, fun w0 => by have := i4.2.2.2 w0; have := hp.2.2.2 (i3 w0); have := f1 (by omega); omega⟩
  refine ⟨fun _ => out, fun n1 => ⟨fun _ => out, fun hf y1 y2 g2 => ?_⟩⟩
  have c7 := h7 (i3 hf)
  have g2 := g2 (by omega)
  have hp0 := hp.2.2.2 (i3 hf)
  have j4 := i4.2.2.2 hf
  have at68 : ∀ (b8 b9 b10 ua uk uf uc : Int32), (uf.toInt = 0 → tf.toInt = 0) → VQ X ta.toInt (max (ta.toInt + 1) (4220 + 20 * (11 - (w + 1)))) ua uk uf uc → w_11_68 T P (fun c1 c2 c3 c4 c5 c6 c7 va vk vf vc vz => (c2 = b2 ∧ c6 = b6 ∧ vz = tz ∧ 0 ≤ c7.toInt ∧ c7.toInt ≤ 7 ∧ (vf.toInt = 0 → sf.toInt = 0) ∧ VQ X (sa.toInt + 1) (max (sa.toInt + 1 + 2 * c7.toInt) (4220 + 20 * (10 - w) + 2 * c7.toInt)) va vk vf vc) ∧ (7 - c7.toInt).toNat < (7 - b7.toInt).toNat) b1 b2 b3 b4 b5 b6 b7 b8 b9 b10 ua uk uf uc tz Q := by
    intro b8 b9 b10 ua uk uf uc q1 q2 x1' _
    have go : ∀ t2 : Int32, 0 ≤ t2.toInt → t2.toInt ≤ 1 → w_11_83 T P (fun c1 c2 c3 c4 c5 c6 c7 va vk vf vc vz => (c2 = b2 ∧ c6 = b6 ∧ vz = tz ∧ 0 ≤ c7.toInt ∧ c7.toInt ≤ 7 ∧ (vf.toInt = 0 → sf.toInt = 0) ∧ VQ X (sa.toInt + 1) (max (sa.toInt + 1 + 2 * c7.toInt) (4220 + 20 * (10 - w) + 2 * c7.toInt)) va vk vf vc) ∧ (7 - c7.toInt).toNat < (7 - b7.toInt).toNat) b1 b2 b3 b4 b5 b6 b7 b8 b9 b10 ua t2 ua uk uf uc tz Q := by
      intro t2 t0 t1 z1' f1 z2 f2
      have f2 := f2 (by omega)
      refine ⟨⟨rfl, rfl, rfl, by omega, by omega, fun w0 => i3 (q1 w0), q2.1, q2.2.1, q2.2.2.1, fun w0 => ?_⟩, by omega⟩
      have := q2.2.2.2 w0
      have := f1 (by omega)
      omega
    exact ⟨fun _ => go 0 (by decide) (by decide), fun _ => go 1 (by decide) (by decide)⟩
  refine hv _ _ _ _ _ _ X _ (by omega) ⟨hf, by omega, by omega, i4.1, j4.2.2, hX, i4.2.2.1⟩ (fun r a k f c hr => ⟨r, rfl, fun nf => at68 _ _ _ _ _ _ _ (fun w0 => absurd w0 nf) hr, fun zf x15 _ x21 _ _ x27 => ?_⟩)
  have at66 : ∀ (b8 b9 b10 b11 t1 : Int32), 0 ≤ t1.toInt → t1.toInt ≤ 9 → w_11_66 T P _ b1 b2 b3 b4 b5 b6 b7 b8 b9 b10 b11 t1 a k f c tz Q := fun b8 b9 b10 b11 t1 q1 q2 => hb _ _ _ _ _ _ _ _ q1 (by omega) (fun f' hf' => ⟨rfl, at68 _ _ _ _ _ _ _ (fun _ => hf) (VQ_f hr (fun w0 => (hf' w0).1))⟩)
  exact ⟨fun _ x33 q1 q2 => at66 _ _ _ _ _ q1 q2, fun _ => at66 _ _ _ _ _ (by decide) (by decide)⟩
theorem p_10 (hb : BL (T 0) P) (hcl : CL (T 0) P) (ht : TL (T 0) 1) {w : Int} (hpt : PTs (T 0) w) {a1 sa sk sf sc sz : Int32} {X : Int} (e : a1.toInt = w) (hw : 1 ≤ w ∧ w ≤ 10) (hp : VP X sa sk sf sc) (hs : sa.toInt + 1 < 4002) (hq : ∀ r a k f c : Int32, VQ X sa.toInt (4220 + 20 * (11 - w)) a k f c → Q (some (.int r)) (a, k, f, c, sz)) : w_10_0 T P a1 sa sk sf sc sz Q := by
  obtain ⟨p1, p2, p3, p4, p5, p6, p7⟩ := hp
  have at58 : ∀ (a2 a3 a4 a5 ua uk uf : Int32), a5.toInt ≤ 5000 → (uf.toInt = 0 → a5.toInt ≤ 7) → sa.toInt + 1 ≤ ua.toInt → ua.toInt ≤ 4178 → 0 ≤ uk.toInt → uk.toInt ≤ X + 20000 → (uf.toInt = 0 → uk.toInt + 4500 * (4002 - min ua.toInt 4002) ≤ X) → w_10_58 T P a1 a2 a3 a4 a5 ua uk uf sc sz Q := by
    intro a2 a3 a4 a5 ua uk uf q0 q1 q2 q3 q4 q5 q6
    refine hcl _ _ _ _ _ _ _ _ _ _ _ _ p7 (by decide) (by decide) (by decide) (fun c hc => ⟨rfl, fun x12 _ _ => hpt _ _ _ _ _ _ _ _ _ _ _ X _ e p6 ⟨q4, q5, hc, fun w0 => ⟨by omega, by omega, q6 w0⟩⟩ q1 (fun a k f c' hv => ⟨rfl, hcl _ _ _ _ _ _ _ _ _ _ _ _ hv.2.2.1 (by decide) (by omega) (by decide) (fun c'' hc'' => ⟨rfl, hq _ _ _ _ _ (VQ_c (VQ_b hv (by omega) (by omega)) hc'')⟩)⟩)⟩)
  refine ht _ _ _ _ _ _ _ _ (by decide) p1 p4 (by omega) (by omega) (by omega) (fun r k f r1 r2 r3 r4 r5 => ⟨r, rfl, ⟨by omega, by have := sk.toInt_lt; omega⟩, fun sf10 h10 x13 x19 _ h19 x25 _ _ => ?_⟩)
  have q6 : ∀ f' : Int32, (f'.toInt = 0 → f.toInt = 0) → f'.toInt = 0 → k.toInt + 4500 * (4002 - min r.toInt 4002) ≤ X := fun f' h' w0 => by have := r3 (h' w0); omega
  refine ⟨fun _ x26 h26 => ⟨fun e26 => at58 _ _ _ _ _ _ _ h19 (fun _ => by omega) (by omega) (by omega) (by omega) (by omega) (q6 _ h10), fun _ => hb _ _ _ _ _ _ _ _ (by decide) (by decide) (fun f' hf' => ⟨rfl, at58 _ _ _ _ _ _ _ h19 (fun w0 => absurd (hf' w0).2 (by decide)) (by omega) (by omega) (by omega) (by omega) (q6 _ (fun w0 => h10 (hf' w0).1))⟩)⟩, fun _ => hb _ _ _ _ _ _ _ _ (by decide) (by decide) (fun f' hf' => ⟨rfl, at58 _ _ _ _ _ _ _ h19 (fun w0 => absurd (hf' w0).2 (by decide)) (by omega) (by omega) (by omega) (by omega) (q6 _ (fun w0 => h10 (hf' w0).1))⟩)⟩
theorem p_14 (hb : BL (T 0) P) (hcl : CL (T 0) P) (hkl : KL (T 0)) (ht : TL (T 0) 1) {w : Int} (hpt : PTs (T 0) w) {a1 a2 sa sk sf sc sz : Int32} {X : Int} (e : a2.toInt = w) (hw : 1 ≤ w ∧ w ≤ 10) (hp : VP X sa sk sf sc) (hs : sa.toInt + 1 < 4002) (hq : ∀ r a k f c : Int32, VQ X sa.toInt (4220 + 20 * (11 - w)) a k f c → Q (some (.int r)) (a, k, f, c, sz)) : w_14_0 T P a1 a2 sa sk sf sc sz Q := by
  obtain ⟨p1, p2, p3, p4, p5, p6, p7⟩ := hp
  have z0 : (0 : Int32).toInt = 0 := by decide
  have z1 : (1 : Int32).toInt = 1 := by decide
  intro x1 e1 x7 x8 x9 _ x15
  have e1 := e1 (by omega)
  have same : ∀ f : Int32, VQ X sa.toInt (4220 + 20 * (11 - w)) x1 sk f sc := fun f => ⟨p4, by omega, p7, fun _ => by omega⟩
  -- behind the TYPES
  have at118 : ∀ (a3 a4 a5 a6 a7 a8 a9 a10 a11 a12 ua uk uf : Int32), 0 ≤ a11.toInt → a7.toInt ≤ 7 → a9.toInt ≤ 7 → sa.toInt + 1 ≤ ua.toInt → ua.toInt ≤ 4192 → 0 ≤ uk.toInt → uk.toInt ≤ X + 20000 → (uf.toInt = 0 → uk.toInt ≤ sk.toInt + 4420) → w_14_118 T P a1 a2 a3 a4 a5 a6 a7 a8 a9 a10 a11 a12 ua uk uf sc sz Q := by
    intro a3 a4 a5 a6 a7 a8 a9 a10 a11 a12 ua uk uf q0 q1 q2 q3 q4 q5 q6 q7
    have at126 : ∀ t2 : Int32, 0 ≤ t2.toInt → t2.toInt ≤ 1 → w_14_126 T P a1 a2 a3 a4 a5 a6 a7 a8 a9 a10 a11 a12 ua t2 ua uk uf sc sz Q := by
      intro t2 t0 t1 y1 f1
      have f1 := f1 (by omega)
      refine ⟨⟨q0, by have := a11.toInt_lt; omega⟩, fun sf4 h4 sf9 h9 x12 _ => ?_⟩
      refine hpt _ _ _ _ _ _ _ _ _ _ _ X _ e p6 ⟨q5, q6, p7, fun w0 => ?_⟩ (fun _ => q1) (fun a k f c hv => ⟨rfl, fun x19 _ => hcl _ _ _ _ _ _ _ _ _ _ _ _ hv.2.2.1 (by decide) (by omega) (by omega) (fun c' hc' => ⟨rfl, fun _ => ?_, fun _ x26 _ x27 _ sf30 h30 x33 => ?_⟩)⟩)
      · have := q7 (h4 (h9 w0))
        omega
      · exact hq _ _ _ _ _ (VQ_c (VQ_b hv (by omega) (by omega)) hc')
      · exact hq _ _ _ _ _ (VQ_f (VQ_c (VQ_b hv (by omega) (by omega)) hc') h30)
    exact ⟨fun _ => at126 0 (by decide) (by decide), fun _ => at126 1 (by decide) (by decide)⟩
  have at70 : ∀ (a3 a4 a5 a6 a7 a8 t0 : Int32), 0 ≤ t0.toInt → t0.toInt ≤ 7 → w_14_70 T P a1 a2 a3 a4 a5 a6 a7 a8 t0 x1 sk sf sc sz Q := by
    intro a3 a4 a5 a6 a7 a8 t0 q1 q2
    have bad : w_14_81 T P a1 a2 a3 a4 a5 a6 a7 a8 t0 x1 sk sf sc sz Q := hb _ _ _ _ _ _ _ _ (by decide) (by decide) (fun f _ => ⟨rfl, hq _ _ _ _ _ (same f)⟩)
    refine ⟨fun _ => bad, fun _ y1 h1 => ⟨fun ey => hkl _ _ _ _ _ _ _ p4 (by omega) (fun r k k1 k2 => ⟨r, rfl, ?_⟩), fun _ => bad⟩⟩
    refine ⟨fun b1 b2 b3 b4 b5 b6 b7 b8 b9 b10 b11 b12 ta tk tf tc tz => b1 = a1 ∧ b2 = a2 ∧ b7 = a7 ∧ b9 = t0 ∧ b11 = k ∧ tc = sc ∧ tz = sz ∧ 0 ≤ b12.toInt ∧ b12.toInt ≤ 7 ∧ 0 ≤ tk.toInt ∧ tk.toInt ≤ sk.toInt + 4000 + 420 + 4691 ∧ (tf.toInt = 0 → tk.toInt ≤ sk.toInt + 4000 + 60 * b12.toInt) ∧ sa.toInt + 1 ≤ ta.toInt ∧ ta.toInt ≤ 4178 + 2 * b12.toInt, fun _ _ _ _ _ _ _ _ _ _ _ b12 _ _ _ _ _ => (7 - b12.toInt).toNat, ⟨rfl, rfl, rfl, rfl, rfl, rfl, rfl, by omega, by omega, by omega, by omega, fun _ => by omega, by omega, by omega⟩, ?_⟩
    rintro b1 b2 b3 b4 b5 b6 b7 b8 b9 b10 b11 b12 ta tk tf tc tz ⟨rfl, rfl, rfl, rfl, rfl, rfl, rfl, i1, i2, i3, i4, i5, i6, i7⟩
    have out : w_14_118 T P b1 b2 b3 b4 b5 b6 b7 b8 b9 b10 b11 b12 ta tk tf tc tz Q := at118 _ _ _ _ _ _ _ _ _ _ _ _ _ (by omega) (by omega) q2 i6 (by omega) i3 (by omega) (fun w0 => by have := i5 w0; omega)
    refine ⟨fun _ => out, fun n1 => ⟨fun _ => out, fun hf y1 g1 => ?_⟩⟩
    have g1 := g1 (by omega)
    have j5 := i5 hf
    refine ht _ _ _ _ _ _ _ _ (by decide) hf i3 (by omega) (by omega) (by omega) (fun r k f r1 r2 r3 r4 r5 => ⟨r, rfl, fun x9 e9 => ?_⟩)
    have e9 := e9 (by omega)
    exact ⟨⟨rfl, rfl, rfl, rfl, rfl, rfl, rfl, by omega, by omega, by omega, by omega, fun w0 => by have := r3 w0; omega, by omega, by omega⟩, by dsimp only; omega⟩
  refine ⟨fun _ x21 _ _ x27 _ _ x33 _ _ x34 _ => ⟨fun _ => at70 _ _ _ _ _ _ _ (by decide) (by decide), fun _ x35 h35 => at70 _ _ _ _ _ _ _ h35.1 h35.2⟩, fun _ => hb _ _ _ _ _ _ _ _ (by decide) (by decide) (fun f _ => ⟨rfl, hq _ _ _ _ _ (same f)⟩)⟩
theorem p_8 (hb : BL (T 0) P) (hcl : CL (T 0) P) (ht : TL (T 0) 1) (hfa : FA (T 0)) {w : Int} (hm : MA (T 0) w) {a1 a2 sa sk sf sc sz : Int32} {X : Int} (e : a2.toInt = w) (hw : 1 ≤ w ∧ w ≤ 10) (hp : VP X sa sk sf sc) (hs : sa.toInt < 4002) (hq : ∀ r a k f c : Int32, VQ X sa.toInt (4220 + 20 * (11 - w)) a k f c → Q (some (.int r)) (a, k, f, c, sz)) : w_8_0 T P a1 a2 sa sk sf sc sz Q := by
  obtain ⟨p1, p2, p3, p4, p5, p6, p7⟩ := id hp
  intro x1 e1 x2 h2
  have e1 := e1 (by omega)
  have at106 : ∀ (a3 a4 a5 ua uk uf : Int32), VQ X sa.toInt (4220 + 20 * (11 - w)) ua uk uf sc → w_8_106 T P a1 a2 a3 a4 a5 ua uk uf sc sz Q := fun a3 a4 a5 ua uk uf hv y1 _ => hcl _ _ _ _ _ _ _ _ _ _ _ _ p7 (by decide) (by omega) (by decide) (fun c hc => ⟨rfl, hq _ _ _ _ _ (VQ_c hv hc)⟩)
  have at30 : ∀ (a3 a4 : Int32), x1.toInt + 1 < 4002 → w_8_30 T P a1 a2 a3 a4 x1 sk sf sc sz Q := fun a3 a4 h => hm _ _ _ _ _ _ _ X _ e ⟨p1, by omega, by omega, p4, by omega, p6, p7⟩ h (fun r a k f c hv => ⟨r, rfl, hq _ _ _ _ _ (VQ_b hv (by omega) (by omega))⟩)
  refine ⟨fun e2 x3 x9 _ _ => ⟨fun _ x10 e10 => ?_, fun _ => hb _ _ _ _ _ _ _ _ (by decide) (by decide) (fun f _ => ⟨rfl, hq _ _ _ _ _ ⟨p4, by omega, p7, fun _ => by omega⟩⟩)⟩, fun _ x55 e55 x56 h56 => ⟨fun z56 => at30 _ _ (by have := h56 (by omega); have := e55 (by omega); omega), fun _ => ⟨fun _ => hfa _ _ _ _ _ _ _ _ p7 (by omega) (by omega) (fun r a f c ha hc _ => ⟨r, rfl, hq _ _ _ _ _ ⟨p4, by omega, hc, fun _ => by omega⟩⟩), fun z56 => at30 _ _ (by have := h56 (by omega); have := e55 (by omega); omega)⟩⟩⟩
  have e10 := e10 (by omega)
  refine ht _ _ _ _ _ _ _ _ (by decide) p1 p4 (by omega) (by omega) (by omega) (fun r k f r1 r2 r3 r4 r5 => ⟨r, rfl, fun x18 e18 => ⟨⟨p4, by have := sk.toInt_lt; omega⟩, fun sf21 h21 => ?_⟩⟩)
  have e18 := e18 (by omega)
  have vq : ∀ f' : Int32, (f'.toInt = 0 → f.toInt = 0) → VQ X sa.toInt (4220 + 20 * (11 - w)) x18 k f' sc := fun f' h' => ⟨by omega, by omega, p7, fun w0 => by have := r3 (h' w0); omega⟩
  exact ⟨fun _ => at106 _ _ _ _ _ _ (vq _ h21), fun _ x24 x30 _ _ => ⟨fun _ => at106 _ _ _ _ _ _ (vq _ h21), fun _ x36 x42 q1 q2 => hb _ _ _ _ _ _ _ _ q1 (by omega) (fun f' hf' => ⟨rfl, at106 _ _ _ _ _ _ (vq _ (fun w0 => h21 (hf' w0).1))⟩)⟩⟩
theorem p_7 (hb : BL (T 0) P) (hva : VA (T 0)) {w : Int} (hl : w ≤ 10 → LA (T 0) w) (hba : w ≤ 10 → BA (T 0) w) {a1 sa sk sf sc sz : Int32} {X : Int} (e : a1.toInt = w) (hw : 1 ≤ w ∧ w ≤ 11) (hp : VP X sa sk sf sc) (hq : ∀ r a k f c : Int32, VQ X sa.toInt (max (sa.toInt + 1) (4220 + 20 * (11 - w))) a k f c → Q (some (.int r)) (a, k, f, c, sz)) : w_7_0 T P a1 sa sk sf sc sz Q := by
  obtain ⟨p1, p2, p3, p4, p5, p6, p7⟩ := id hp
  have z0 : (0 : Int32).toInt = 0 := by decide
  have at35 : ∀ (a2 a3 t0 ua uk uf uc : Int32), w ≤ 10 → VQ X sa.toInt (max (sa.toInt + 1) (4220 + 20 * (11 - w))) ua uk uf uc → w_7_35 T P a1 a2 a3 t0 ua uk uf uc sz Q := by
    intro a2 a3 t0 ua uk uf uc hw' hv
    refine ⟨fun b1 b2 b3 b4 b5 ta tk tf tc tz => b1 = a1 ∧ tz = sz ∧ 0 ≤ b5.toInt ∧ b5.toInt ≤ 20 ∧ VQ X sa.toInt (max (sa.toInt + 1) (4220 + 20 * (11 - w))) ta tk tf tc, fun _ _ _ _ b5 _ _ _ _ _ => (20 - b5.toInt).toNat, ⟨rfl, rfl, by omega, by omega, hv⟩, ?_⟩
    rintro b1 b2 b3 b4 b5 ta tk tf tc tz ⟨rfl, rfl, i1, i2, i3⟩
    have out : w_7_63 T P b1 b2 b3 b4 b5 ta tk tf tc tz Q := hq _ _ _ _ _ i3
    refine ⟨fun _ => out, fun n1 => ⟨fun _ => out, fun hf x1 h1 => ⟨fun _ => out, fun e46 => ?_⟩⟩⟩
    have h1 := h1 (by omega)
    have j3 := i3.2.2.2 hf
    refine hba hw' _ _ _ _ _ _ _ X _ e ⟨hf, by omega, by omega, i3.1, j3.2.2, p6, i3.2.2.1⟩ h1.2 (fun r a k f c hr => ⟨r, rfl, fun x14 x15 e15 => ?_⟩)
    have e15 := e15 (by omega)
    exact ⟨⟨rfl, rfl, by omega, by omega, VQ_b hr (by omega) (by omega)⟩, by dsimp only; omega⟩
  intro x1
  refine ⟨fun hw' x2 e2 x3 h3 => ?_, fun _ => hb _ _ _ _ _ _ _ _ (by decide) (by decide) (fun f hf => ⟨rfl, hq _ _ _ _ _ ⟨p4, by omega, p7, fun w0 => absurd (hf w0).2 (by decide)⟩⟩)⟩
  have e2 := e2 (by omega)
  have at29 : ∀ a2 a3 : Int32, sa.toInt + 1 < 4002 → w_7_29 T P a1 a2 a3 sa sk sf sc sz Q := fun a2 a3 h => hl (by omega) _ _ _ _ _ _ X _ e hp h (fun r a k f c hr => ⟨r, rfl, at35 _ _ _ _ _ _ _ (by omega) (VQ_b hr (by omega) (by omega))⟩)
  refine ⟨fun z3 => at29 _ _ (by have := h3 (by omega); omega), fun _ => ⟨fun _ => hva _ _ _ _ _ _ p7 p2 (by omega) (fun r a f c ha hc hf => ⟨r, rfl, at35 _ _ _ _ _ _ _ (by omega) ⟨p4, by omega, hc, fun w0 => by omega⟩⟩), fun z3 => at29 _ _ (by have := h3 (by omega); omega)⟩⟩
end BD
