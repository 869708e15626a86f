/-! ===== the reference: a program that is loaded; it stays ===== -/
/-- a node of bank b whose elements lie in the bank's own words -/
def NDk (b : Int) (s : yS) (y : Int) : Prop := (4002 * b ≤ y ∧ y < 4002 * b + 4002) ∧ 10 + 4100 * b ≤ (s.2.1 231 y.toNat).toInt
/-- where the tables' nodes and names are -/
def SDe (ar : Int → Int) (hd : Nat → Nat × Nat × List (List Int)) (H : Nat) (nT b : Int) (s : yS) : Prop := (∀ (c : Int) (k : Nat), 0 ≤ c → c < nT → (k : Int) < ar c → NDk b s (s.2.1 238 (6 * (24 * b + c) + (k : Int)).toNat).toInt) ∧ ∀ h : Nat, h < H → (∀ k : Nat, k < (hd h).1 → NDk b s (s.2.1 247 (6 * (204 * b + (h : Int)) + (k : Int)).toNat).toInt) ∧ (∀ k : Nat, k < (hd h).2.1 → NDk b s (s.2.1 250 (6 * (204 * b + (h : Int)) + (k : Int)).toNat).toInt) ∧ NDk b s (s.2.1 251 (204 * b + (h : Int)).toNat).toInt ∧ (4002 * b ≤ (s.2.1 244 (204 * b + (h : Int)).toNat).toInt ∧ (s.2.1 244 (204 * b + (h : Int)).toNat).toInt < 4002 * b + 4002)
/-- what of bank b stays -/
def RFb (b : Int) (s s' : yS) : Prop := ((∀ (q : Nat) (i : Int), (q = 216 ∨ q = 217 ∨ (221 ≤ q ∧ q ≤ 232)) → 4002 * b ≤ i → i < 4002 * b + 4002 → s'.2.1 q i.toNat = s.2.1 q i.toNat) ∧ (∀ (q : Nat) (i : Int), (q = 235 ∨ q = 236 ∨ q = 239 ∨ q = 242 ∨ q = 243) → 24 * b ≤ i → i < 24 * b + 24 → s'.2.1 q i.toNat = s.2.1 q i.toNat) ∧ (∀ (q : Nat) (i : Int), (q = 238 ∨ q = 241) → 144 * b ≤ i → i < 144 * b + 144 → s'.2.1 q i.toNat = s.2.1 q i.toNat) ∧ (∀ (q : Nat) (i : Int), (q = 244 ∨ q = 245 ∨ q = 248 ∨ q = 251) → 204 * b ≤ i → i < 204 * b + 204 → s'.2.1 q i.toNat = s.2.1 q i.toNat) ∧ (∀ (q : Nat) (i : Int), (q = 247 ∨ q = 250) → 1224 * b ≤ i → i < 1224 * b + 1224 → s'.2.1 q i.toNat = s.2.1 q i.toNat) ∧ (∀ (q : Nat) (i : Int), (q = 257 ∨ q = 258 ∨ q = 261) → 60 * b ≤ i → i < 60 * b + 60 → s'.2.1 q i.toNat = s.2.1 q i.toNat) ∧ ∀ q : Nat, (q = 252 ∨ q = 259) → s'.2.1 q b.toNat = s.2.1 q b.toNat) ∧ (∀ j : Nat, 10 + 4100 * b ≤ (j : Int) → (j : Int) < 10 + 4100 * b + 4100 → s'.2.1 264 j = s.2.1 264 j) ∧ s'.1 75 = s.1 75 ∧ RWel s' 0 [40000, 40008, 40016, 40024, 40032, 40040]
/-- the tables that a run reads, their TYPES ahead of A -/
def TBa (K L W ar kd : Int → Int) (TN Ls : List Int) (n b A : Int) (s : yS) : Prop := PGr ar kd (cfO K L W TN Ls) (fsd K L Ls) (kFn K Ls) (kHd K L Ls) (TN.length : Int) (tmd K L Ls) (tnd K L Ls) (hdd K L W ar TN Ls) (hbd K L Ls) (owd K L W TN Ls) (hwd K L W Ls) (Bfd K L W ar TN Ls) b A s ∧ (∀ t : Int, 0 ≤ t → t ≤ n → (s.2.1 216 (4002 * b + t).toNat).toInt = L t) ∧ (∀ q0, wTk K n q0 → ∀ h : Nat, h < kHd K L Ls → (wHr b s h = (s.2.1 217 (4002 * b + q0).toNat).toInt ↔ hwd K L W Ls h = W q0)) ∧ ∀ c : Int, kd c = 1 → (0 ≤ c ∧ c < (TN.length : Int)) ∧ (s.2.1 239 (24 * b + c).toNat).toInt = ((fTy K L W ar TN Ls c).length : Int)
/-- FIELDS: their TYPES, resolved -/
def FDr (K L W ar kd : Int → Int) (TN Ls : List Int) (b A : Int) (s : yS) : Prop := ∀ (c : Int) (k : Nat) (Z : List Int), kd c = 1 → (fTy K L W ar TN Ls c)[k]? = some Z → RSe s A (s.2.1 241 (6 * (24 * b + c) + (k : Int)).toNat).toInt (Z.map (rhE ar (1000 + 6 * c) 2000)) ∧ NDk b s (s.2.1 241 (6 * (24 * b + c) + (k : Int)).toNat).toInt
/-- a loaded program, in bank b -/
def RLd (K L W ar kd : Int → Int) (TN Ls : List Int) (n mB b : Int) (s : yS) : Prop := ∃ A A0 A1 : Int, (A ≤ 10 + 4100 * b + 4100 ∧ 10 + 4100 * b ≤ A0 ∧ A1 ≤ 10 + 4100 * b + 4100) ∧ TBa K L W ar kd TN Ls n b A s ∧ (SDe ar (hdd K L W ar TN Ls) (kHd K L Ls) (TN.length : Int) b s ∧ FDr K L W ar kd TN Ls b A s) ∧ (∀ (i : Nat) (t : Int), Ls[i]? = some t → K t = 6 → ∃ x' y' : Int, (4002 * b ≤ x' ∧ y' ≤ 4002 * b + 4002) ∧ eC K L W ar kd TN Ls (4002 * b) (4000 + 6 * (kFn K (Ls.take i) : Int)) (2000 + 6 * (kHd K L (Ls.take i) : Int)) (fnS K L W ar TN Ls i t) A0 A1 s 10 x' y' (f_7 K L false (0, t)).2 (s.2.1 258 (60 * b + (kFn K (Ls.take i) : Int)).toNat).toInt) ∧ ∃ x' y' : Int, (4002 * b ≤ x' ∧ y' ≤ 4002 * b + 4002) ∧ eC K L W ar kd TN Ls (4002 * b) 1000 2000 mnS A0 A1 s 10 x' y' mB (s.2.1 259 b.toNat).toInt
section ZUT
variable {K L W ar kd : Int → Int} {TN Ls : List Int} {n lo hi mB b A x y : Int} {s s' : yS} {E : List Int}
theorem NDk_b (hF : RFb b s s') (hN : NDk b s y) : NDk b s' y := by
  refine ⟨hN.1, ?_⟩
  rw [hF.1.1 231 y (by omega) hN.1.1 hN.1.2]
  exact hN.2
theorem RSe_b (hF : RFb b s s') (hb : 0 ≤ b) (hA : A ≤ 10 + 4100 * b + 4100) (hN : NDk b s y) (g : RSe s A y E) : RSe s' A y E := by
  obtain ⟨g1, g2, g3, g4⟩ := g
  have h2 := hN.2
  unfold RSe
  rw [hF.1.1 231 y (by omega) hN.1.1 hN.1.2, hF.1.1 232 y (by omega) hN.1.1 hN.1.2]
  refine ⟨g1, g2, g3, fun i c hc => ?_⟩
  have hi := (List.getElem?_eq_some_iff.mp hc).1
  rw [← g4 i c hc, KI_p (by omega), KI_p (by omega), hF.2.1 _ (by omega) (by omega)]
set_option maxHeartbeats 2000000 in
theorem TBa_b (h : PRm K L W ar kd n lo hi TN Ls) (hF : RFb b s s') (hA : A ≤ 10 + 4100 * b + 4100) (hS : SDe ar (hdd K L W ar TN Ls) (kHd K L Ls) (TN.length : Int) b s) (g : TBa K L W ar kd TN Ls n b A s) : TBa K L W ar kd TN Ls n b A s' ∧ SDe ar (hdd K L W ar TN Ls) (kHd K L Ls) (TN.length : Int) b s' := by
  have hn := h.1.1.1
  have hnT := h.2.2.1.1
  have hTN := PR_nT h
  obtain ⟨⟨⟨f1, f2, f3, f4, f5, f6, f7⟩, ft, f75, fw⟩, S1, S2⟩ := And.intro (id hF) hS
  obtain ⟨⟨g1, g2, g3, g4, g5, g6, g7⟩, t1, t2, t3⟩ := g
  obtain ⟨k75, b0, kA, kH, kF, kT⟩ := id g1
  have tyI : ∀ c : Int, 0 ≤ c → c < (TN.length : Int) → ∀ k : Nat, k < 6 → s'.2.1 238 (6 * (24 * b + c) + (k : Int)).toNat = s.2.1 238 (6 * (24 * b + c) + (k : Int)).toNat := fun c c0 c1 k hk => f3 238 _ (Or.inl rfl) (by omega) (by omega)
  have hdI : ∀ q : Nat, (q = 247 ∨ q = 250) → ∀ h : Nat, h < kHd K L Ls → ∀ k : Nat, k < 6 → s'.2.1 q (6 * (204 * b + (h : Int)) + (k : Int)).toNat = s.2.1 q (6 * (204 * b + (h : Int)) + (k : Int)).toNat := fun q hq h hh k hk => f5 q _ hq (by omega) (by omega)
  have hd1 : ∀ q : Nat, (q = 244 ∨ q = 245 ∨ q = 248 ∨ q = 251) → ∀ h : Nat, h < kHd K L Ls → s'.2.1 q (204 * b + (h : Int)).toNat = s.2.1 q (204 * b + (h : Int)).toNat := fun q hq h hh => f4 q _ hq (by omega) (by omega)
  have wH : ∀ h : Nat, h < kHd K L Ls → wHr b s' h = wHr b s h := fun h hh => by
    have q := (S2 h hh).2.2.2
    unfold wHr
    rw [hd1 244 (by omega) h hh, f1 217 _ (by omega) q.1 q.2]
  refine ⟨⟨⟨by rw [f75]; exact g1, fun c hc0 hc1 => ?_, ⟨?_, fun f hf => ?_⟩, fun c hc => ?_, fun q hq => ?_, fw, g7⟩, fun t ht0 ht1 => ?_, fun q0 hq h hh => ?_, fun c hc => ?_⟩, fun c k c0 c1 hk => ?_, fun h hh => ?_⟩
  · obtain ⟨k1, k2, k3, k4, k5⟩ := g2 c hc0 hc1
    rw [f2 235 (24 * b + c) (by omega) (by omega) (by omega), f2 236 (24 * b + c) (by omega) (by omega) (by omega)]
    refine ⟨k1, k2, k3, k4, fun k hk => ?_⟩
    rw [tyI c hc0 hc1 k (by omega)]
    exact RSe_b hF b0 hA (S1 c k hc0 hc1 hk) (k5 k hk)
  · rw [f7 252 (by omega)]
    exact g3.1
  · rw [f6 261 (60 * b + (f : Int)) (by omega) (by omega) (by omega), f6 257 (60 * b + (f : Int)) (by omega) (by omega) (by omega)]
    exact g3.2 f hf
  · obtain ⟨k1, k2, k3, k4⟩ := g4 c hc
    rw [f2 242 (24 * b + c) (by omega) (by omega) (by omega), f2 243 (24 * b + c) (by omega) (by omega) (by omega)]
    exact ⟨k1, k2, k3, k4⟩
  · obtain ⟨k1, k2, k3, k4⟩ := g5 q hq
    obtain ⟨m1, m2, m3, m4, m5, m6⟩ := k1
    obtain ⟨z1, z2, z3, z4⟩ := S2 q hq
    refine ⟨⟨?_, m2, m3, fun k hk => ?_, fun k hk => ?_, ?_⟩, k2, k3, fun q' hq' => ?_⟩
    · rw [hd1 245 (by omega) q hq, hd1 248 (by omega) q hq]
      exact m1
    · rw [hdI 247 (by omega) q hq k (by omega)]
      exact RSe_b hF b0 hA (z1 k hk) (m4 k hk)
    · rw [hdI 250 (by omega) q hq k (by omega)]
      exact RSe_b hF b0 hA (z2 k hk) (m5 k hk)
    · rw [hd1 251 (by omega) q hq]
      exact RSe_b hF b0 hA z3 m6
    · rw [wH q hq, wH q' hq']
      exact k4 q' hq'
  · rw [f1 216 (4002 * b + t) (by omega) (by omega) (by omega)]
    exact t1 t ht0 ht1
  · have q1 := hq.1
    have q2 := hq.2.1
    rw [wH h hh, f1 217 (4002 * b + q0) (by omega) (by omega) (by omega)]
    exact t2 q0 hq h hh
  · obtain ⟨k1, k2⟩ := t3 c hc
    rw [f2 239 (24 * b + c) (by omega) (by omega) (by omega)]
    exact ⟨k1, k2⟩
  · have k6 := (g2 c c0 c1).2.1.2
    rw [tyI c c0 c1 k (by omega)]
    exact NDk_b hF (S1 c k c0 c1 hk)
  · obtain ⟨z1, z2, z3, z4⟩ := S2 h hh
    have m2 := (g5 h hh).1.2.1
    refine ⟨fun k hk => ?_, fun k hk => ?_, ?_, ?_⟩
    · rw [hdI 247 (by omega) h hh k (by omega)]
      exact NDk_b hF (z1 k hk)
    · rw [hdI 250 (by omega) h hh k (by omega)]
      exact NDk_b hF (z2 k hk)
    · rw [hd1 251 (by omega) h hh]
      exact NDk_b hF z3
    · rw [hd1 244 (by omega) h hh]
      exact z4
theorem FDr_b (h : PRm K L W ar kd n lo hi TN Ls) (hF : RFb b s s') (hb : 0 ≤ b) (hA : A ≤ 10 + 4100 * b + 4100) (g : FDr K L W ar kd TN Ls b A s) : FDr K L W ar kd TN Ls b A s' := fun c k Z hk hZ => by
  obtain ⟨g1, g2⟩ := g c k Z hk hZ
  have hk6 : k < 6 := by
    have q1 := (List.getElem?_eq_some_iff.mp hZ).1
    have q2 := fTy_6 h c
    omega
  have hc : 0 ≤ c ∧ c < 24 := by
    rcases Int.lt_or_le c 0 with q | q
    · have := h.2.2.2.2.2.1 c (Or.inl q)
      omega
    · rcases Int.lt_or_le c (kTy K Ls : Int) with q2 | q2
      · have := h.2.2.1.1
        omega
      · have := h.2.2.2.2.2.1 c (Or.inr q2)
        omega
  rw [hF.1.2.2.1 241 _ (Or.inr rfl) (by omega) (by omega)]
  exact ⟨RSe_b hF hb hA g2 g1, NDk_b hF g2⟩
/-- it stays where its bank does -/
theorem RLd_b (h : PRm K L W ar kd n lo hi TN Ls) (hF : RFb b s s') (g : RLd K L W ar kd TN Ls n mB b s) : RLd K L W ar kd TN Ls n mB b s' := by
  obtain ⟨A, A0, A1, hA, g1, g2, g3, x', y', g4, g5⟩ := g
  have b0 := g1.1.1.2.1
  obtain ⟨q1, q2⟩ := TBa_b h hF hA.1 g2.1 g1
  have cf : ∀ x' y' : Int, 4002 * b ≤ x' → y' ≤ 4002 * b + 4002 → CFq x' y' A0 A1 s s' := fun x' y' h1 h2 => ⟨fun q j j1 j2 j3 j4 => hF.1.1 q j (by omega) (by omega) (by omega), fun j j1 j2 => hF.2.1 j (by omega) (by omega)⟩
  refine ⟨A, A0, A1, hA, q1, ⟨q2, FDr_b h hF b0 hA.1 g2.2⟩, fun i t h1 h6 => ?_, x', y', g4, ?_⟩
  · obtain ⟨x2, y2, w1, w2⟩ := g3 i t h1 h6
    have hk := kFn_lt h1 h6
    have hF60 := h.2.2.1.2
    refine ⟨x2, y2, w1, ?_⟩
    rw [hF.1.2.2.2.2.2.1 258 (60 * b + (kFn K (Ls.take i) : Int)) (by omega) (by omega) (by omega)]
    exact eC_c 10 (cf x2 y2 w1.1 w1.2) (Int.le_refl _) w2
  · rw [hF.1.2.2.2.2.2.2 259 (by omega)]
    exact eC_c 10 (cf x' y' g4.1 g4.2) (Int.le_refl _) g5
/-- where whole rows stay -/
theorem RFb_x (hb : 0 ≤ b ∧ b < 2) (r : ∀ q, q < 264 → s'.2.1 q = s.2.1 q) (t : ∀ j : Nat, j < 8210 → s'.2.1 264 j = s.2.1 264 j) (h75 : s'.1 75 = s.1 75) (hw : RWel s 0 [40000, 40008, 40016, 40024, 40032, 40040]) : RFb b s s' := by
  refine ⟨⟨fun q i hq _ _ => by rw [r q (by omega)], fun q i hq _ _ => by rw [r q (by omega)], fun q i hq _ _ => by rw [r q (by omega)], fun q i hq _ _ => by rw [r q (by omega)], fun q i hq _ _ => by rw [r q (by omega)], fun q i hq _ _ => by rw [r q (by omega)], fun q hq => by rw [r q (by omega)]⟩, fun j _ j2 => t j (by omega), h75, fun i c hc => ?_⟩
  have hi : i < 6 := (List.getElem?_eq_some_iff.mp hc).1
  have e := hw i c hc
  rw [KI_p (by omega)] at e ⊢
  rw [t _ (by omega)]
  exact e
/-- where another bank was touched -/
theorem RFb_k {b' nb : Nat} (hn : nb < 2) (hb : b' < 3) (hne : ¬ b' = nb) (hF : BKF b' s s') (h75 : s'.1 75 = s.1 75) (hw : RWel s' 0 [40000, 40008, 40016, 40024, 40032, 40040]) : RFb (nb : Int) s s' := by
  have key : ∀ (q N : Nat) (i : Int), bl q = N → ¬ q = 264 → q ∉ [265, 266, 267, 268, 269] → (N : Int) * (nb : Int) ≤ i → i < (N : Int) * (nb : Int) + (N : Int) → s'.2.1 q i.toNat = s.2.1 q i.toNat := fun q N i e1 e2 e3 i1 i2 => hF q _ (by
    rintro (w | w | w)
    · rw [e1] at w
      have h1 : N * b' ≤ i.toNat := w.1
      have h2 : i.toNat < N * (b' + 1) := w.2
      have n0 : (0 : Int) ≤ (N : Int) * (nb : Int) := Int.mul_nonneg (by omega) (by omega)
      have c1 : (N : Int) * (b' : Int) ≤ i := by
        have : ((N * b' : Nat) : Int) ≤ (i.toNat : Int) := by omega
        rw [Int.natCast_mul] at this
        omega
      have c2 : i < (N : Int) * (b' : Int) + (N : Int) := by
        have : (i.toNat : Int) < ((N * (b' + 1) : Nat) : Int) := by omega
        rw [Int.natCast_mul, Int.natCast_add, Int.mul_add] at this
        have e : (N : Int) * ((1 : Nat) : Int) = (N : Int) := by rw [show ((1 : Nat) : Int) = 1 from rfl, Int.mul_one]
        rw [e] at this
        omega
      have hnb : nb = 0 ∨ nb = 1 := by omega
      have hbb : b' = 0 ∨ b' = 1 ∨ b' = 2 := by omega
      rcases hnb with rfl | rfl <;> rcases hbb with rfl | rfl | rfl <;> omega
    · exact e2 w.1
    · exact e3 w)
  have big : ∀ q : Nat, (q = 216 ∨ q = 217 ∨ (221 ≤ q ∧ q ≤ 232)) → bl q = 4002 ∧ ¬ q = 264 ∧ q ∉ [265, 266, 267, 268, 269] := fun q hq => by
    have : q = 216 ∨ q = 217 ∨ q = 221 ∨ q = 222 ∨ q = 223 ∨ q = 224 ∨ q = 225 ∨ q = 226 ∨ q = 227 ∨ q = 228 ∨ q = 229 ∨ q = 230 ∨ q = 231 ∨ q = 232 := by omega
    rcases this with rfl | rfl | rfl | rfl | rfl | rfl | rfl | rfl | rfl | rfl | rfl | rfl | rfl | rfl <;> decide
  refine ⟨⟨fun q i hq h1 h2 => ?_, fun q i hq h1 h2 => ?_, fun q i hq h1 h2 => ?_, fun q i hq h1 h2 => ?_, fun q i hq h1 h2 => ?_, fun q i hq h1 h2 => ?_, fun q hq => ?_⟩, fun j h1 h2 => ?_, h75, hw⟩
  · obtain ⟨e1, e2, e3⟩ := big q hq
    exact key q 4002 i e1 e2 e3 h1 h2
  · rcases hq with rfl | rfl | rfl | rfl | rfl
    · exact key 235 24 i (by decide) (by decide) (by decide) h1 h2
    · exact key 236 24 i (by decide) (by decide) (by decide) h1 h2
    · exact key 239 24 i (by decide) (by decide) (by decide) h1 h2
    · exact key 242 24 i (by decide) (by decide) (by decide) h1 h2
    · exact key 243 24 i (by decide) (by decide) (by decide) h1 h2
  · rcases hq with rfl | rfl
    · exact key 238 144 i (by decide) (by decide) (by decide) h1 h2
    · exact key 241 144 i (by decide) (by decide) (by decide) h1 h2
  · rcases hq with rfl | rfl | rfl | rfl
    · exact key 244 204 i (by decide) (by decide) (by decide) h1 h2
    · exact key 245 204 i (by decide) (by decide) (by decide) h1 h2
    · exact key 248 204 i (by decide) (by decide) (by decide) h1 h2
    · exact key 251 204 i (by decide) (by decide) (by decide) h1 h2
  · rcases hq with rfl | rfl
    · exact key 247 1224 i (by decide) (by decide) (by decide) h1 h2
    · exact key 250 1224 i (by decide) (by decide) (by decide) h1 h2
  · rcases hq with rfl | rfl | rfl
    · exact key 257 60 i (by decide) (by decide) (by decide) h1 h2
    · exact key 258 60 i (by decide) (by decide) (by decide) h1 h2
    · exact key 261 60 i (by decide) (by decide) (by decide) h1 h2
  · have w1 : ((1 : Nat) : Int) * (nb : Int) ≤ (nb : Int) := by rw [show ((1 : Nat) : Int) = 1 from rfl, Int.one_mul]; exact Int.le_refl _
    have w2 : (nb : Int) < ((1 : Nat) : Int) * (nb : Int) + ((1 : Nat) : Int) := by rw [show ((1 : Nat) : Int) = 1 from rfl, Int.one_mul]; omega
    rcases hq with rfl | rfl
    · exact key 252 1 _ (by decide) (by decide) (by decide) w1 w2
    · exact key 259 1 _ (by decide) (by decide) (by decide) w1 w2
  · refine hF 264 j ?_
    rintro (w | w | w)
    · rw [show bl 264 = 0 by decide] at w
      omega
    · have hnb : nb = 0 ∨ nb = 1 := by omega
      have hbb : b' = 0 ∨ b' = 1 ∨ b' = 2 := by omega
      rcases hnb with rfl | rfl <;> rcases hbb with rfl | rfl | rfl <;> omega
    · revert w
      decide
/-- what a node of a slot is -/
theorem NDk_n {w : Nat → Int → List Int} {z t x' y' : Int} (hB : 4002 * b ≤ x ∧ y ≤ 4002 * b + 4002) (h : RSn K L (4002 * b) w s A z t) (h1 : x ≤ x' ∧ y' ≤ y ∧ z = x' ∧ yT K L (4002 * b) s 10 x' y' t) : NDk b s z := by
  obtain ⟨z', h2, -, -, h5⟩ := h
  obtain ⟨a1, a2, rfl, a4⟩ := h1
  have e1 := yT_x ⟨10, a4⟩
  have e2 := yT_x ⟨10, h2⟩
  have := h5 z (Int.le_refl _) e2.2
  rw [show 4002 * b / 4002 = b by omega] at this
  exact ⟨⟨by omega, by omega⟩, this⟩
/-- behind the telling -/
theorem TB_of (h : PRm K L W ar kd n lo hi TN Ls) (hS : RST K L W ar kd TN Ls n (4002 * b) b A x y s) (hB : 4002 * b ≤ x ∧ y ≤ 4002 * b + 4002) : TBa K L W ar kd TN Ls n b A s ∧ SDe ar (hdd K L W ar TN Ls) (kHd K L Ls) (TN.length : Int) b s := by
  have hn := h.1.1.1
  have hnT := PR_nT h
  have wq : ∀ {h : Nat} {i j : Nat} {t q : Int}, h = kHd K L (Ls.take i) + j → Ls[i]? = some t → (dHd K L t)[j]? = some q → wHr b s h = (s.2.1 217 (4002 * b + q).toNat).toInt := fun {h i j t q} e h1 h2 => by
    have := (hr_at hS h1 h2).1.1.1
    rw [← e] at this
    unfold wHr
    rw [this]
  refine ⟨⟨PG_of h hS, fun t t0 t1 => (hS.1.2.2.1 t t0 t1).2, fun q0 hq0 g hg => ?_, fun c hc => ?_⟩, fun c k c0 c1 hk => ?_, fun g hg => ?_⟩
  · obtain ⟨i, j, t, q, h1, h2, e⟩ := hd_dc hg
    have p2 := (hd_fact h h1 h2).1.2
    have t4 := (tb_hd (W := W) (ar := ar) (TN := TN) h1 h2).2.2.2
    rw [← e] at t4
    rw [wq e h1 h2, t4]
    exact (hS.1.2.1 q q0 p2.1 p2.2.1 hq0.1 hq0.2.1 p2.2.2 hq0.2.2).symm
  · obtain ⟨k1, -, k3, -⟩ := fld_r h hS hc
    exact ⟨k1, k3⟩
  · obtain ⟨i, t, h1, h6, rfl⟩ := ty_dc (K := K) (Ls := Ls) c0 (by rw [hnT] at c1; exact c1)
    obtain ⟨-, hA, hD, -⟩ := hS
    obtain ⟨a1, a2⟩ := ((hA i t h1).2 h6).2
    obtain ⟨y1, y2, y3, y4, y5, y6⟩ := a1
    have ek := (h.2.2.2.2.1 i t h1 h6)
    have hk' : k < (tFo K L false (0, t)).length := by omega
    have hv := List.getElem?_eq_getElem hk'
    obtain ⟨-, x', y', z1, z2, z3, z4⟩ := y4 k _ hv
    exact NDk_n hB (((hD i t h1).2 h6).1 k _ hv) ⟨z1, z2, z3, z4⟩
  · obtain ⟨i, j, t, q, h1, h2, e⟩ := hd_dc hg
    obtain ⟨⟨p1, p2⟩, ⟨l1, l2⟩, -⟩ := hd_fact h h1 h2
    obtain ⟨t1, -⟩ := tb_hd (W := W) (ar := ar) (TN := TN) h1 h2
    obtain ⟨r1, r2⟩ := hr_at hS h1 h2
    rw [← e] at t1 r1 r2
    obtain ⟨⟨b1, b2, b3, b4⟩, ⟨c1, c2, c3⟩, x', y', d1, d2, d3, d4⟩ := r1
    refine ⟨fun k hk => ?_, fun k hk => ?_, NDk_n hB r2.2.2 ⟨d1, d2, d3, d4⟩, ?_⟩
    · rw [t1] at hk
      have hk' : k < (h_f K L (0, q + 1)).length := hk
      have hv := List.getElem?_eq_getElem hk'
      obtain ⟨-, x', y', z1, z2, z3, z4⟩ := b4 k _ hv
      exact NDk_n hB (r2.1 k _ hv) ⟨z1, z2, z3, z4⟩
    · rw [t1] at hk
      have hk' : k < (h_v K L (0, q + 1)).length := hk
      have hv := List.getElem?_eq_getElem hk'
      obtain ⟨-, x', y', z1, z2, z3, z4⟩ := c3 k _ hv
      exact NDk_n hB (r2.2.1 k _ hv) ⟨z1, z2, z3, z4⟩
    · have q1 := p2.1
      have q2 := p2.2.1
      rw [b1]
      omega
/-- FIELDS, behind the telling -/
theorem FD_of (h : PRm K L W ar kd n lo hi TN Ls) (hS : RST K L W ar kd TN Ls n (4002 * b) b A x y s) (hB : 4002 * b ≤ x ∧ y ≤ 4002 * b + 4002) : FDr K L W ar kd TN Ls b A s := fun c k Z hk hZ => by
  obtain ⟨hc, -, -, -, k5⟩ := fld_r h hS hk
  refine ⟨(k5 k Z hZ).1, ?_⟩
  have hnT := PR_nT h
  obtain ⟨i, t, h1, h6, ec⟩ := ty_dc (K := K) (Ls := Ls) hc.1 (by have := hc.2; omega)
  obtain ⟨kk1, kk2⟩ := h.2.2.2.2.1 i t h1 h6
  rw [← ec] at kk1 kk2
  have hst : tSt K L false (0, t) = true := by
    by_cases q : tSt K L false (0, t) = true
    · exact q
    · rw [if_neg q] at kk2
      omega
  have hat : (tyL K Ls)[c.toNat]? = some t := by
    rw [ec, Int.toNat_natCast]
    exact tyL_at Ls i t h1 h6
  have eT : fTy K L W ar TN Ls c = (tMe K L false (0, t)).map (fun v => wdC K L W ar TN [] (tFo K L false (0, t)) (v + 1)) := by
    unfold fTy
    rw [hat]
  obtain ⟨-, hA, hD, -⟩ := hS
  obtain ⟨m1, m2, -⟩ := ((hA i t h1).2 h6).2.2
  obtain ⟨m3, -, m4⟩ := m2 hst
  rw [eT, List.getElem?_map] at hZ
  obtain ⟨v, hv, rfl⟩ := Option.map_eq_some_iff.mp hZ
  obtain ⟨-, x', y', z1, z2, z3, z4⟩ := m4 k v hv
  rw [← ec] at z3
  have hn := ((hD i t h1).2 h6).2.1 hst k v hv
  rw [← ec] at hn
  exact NDk_n hB hn ⟨z1, z2, z3, z4⟩
/-- behind program, where it answers 0 -/
theorem RLd_of {u : yS} (h : PRm K L W ar kd n lo hi TN Ls) (hb : 0 ≤ b ∧ b < 2) (hS : RPs K L W ar kd TN Ls n (4002 * b) b mB u) (h65 : (u.1 65).toInt ≤ 10 + 4100 * b + 4100) (h26 : (u.1 26).toInt ≤ 4002 * b + 4002) (h75 : (u.1 75).toInt = b) : RLd K L W ar kd TN Ls n mB b u := by
  obtain ⟨s0, ⟨A0, x, y, g1, g2, g3, x', y', g4, g5⟩, hr, e65, e26⟩ := hS
  rw [e65] at h65
  rw [e26] at h26
  have hlow := g1.2.2.2.2.2.1.2
  rw [show 4002 * b / 4002 = b by omega] at hlow
  obtain ⟨T1, T2⟩ := TB_of h g1 ⟨g2.1, by omega⟩
  have hF : RFb b s0 u := RFb_x hb (fun q hq => hr q (by omega) (by omega)) (fun j _ => by rw [hr 264 (by decide) (by decide)]) (Int32.toInt_inj.mp (by rw [h75, g1.1.1])) g1.2.2.2.2.1
  refine RLd_b h hF ⟨A0, A0, (s0.1 65).toInt, ⟨by omega, hlow, h65⟩, T1, ⟨T2, FD_of h g1 ⟨g2.1, by omega⟩⟩, fun i t h1 h6 => ?_, x', y', ⟨by omega, by omega⟩, g5⟩
  obtain ⟨x2, y2, w1, w2⟩ := g3 i t h1 h6
  exact ⟨x2, y2, ⟨by omega, by omega⟩, w2⟩
end ZUT
