/-! ===== the code of an E: what it says, how it lies in its Row ===== -/
/-- one row of code: what to do, a TYPE, a number, TYPES told, a word -/
abbrev Ins : Type := Int × List Int × Int × List (List Int) × Int
section ZZBA
variable (K L W ar kd : Int → Int) (TN Ls : List Int) (S : Scp)
/-- the code of E in a list -/
def ciP (cd : Int → List Ins) (ts : List Int) : List Ins := ts.flatMap cd
/-- a VAR -/
def ciV (t : Int) : List Ins := [(1, [], fIx (wEq W t) 0 S.2.2.2.1, [], 0)]
/-- a struct with its values -/
def ciL (cd : Int → List Ins) (t : Int) : List Ins := (2, wdC K L W ar TN S.1 S.2.1 t, 0, [], 0) :: (ciP cd (exU K L (nxT K L t) (NV K L (nxT K L t))) ++ [(3, [], (NV K L (nxT K L t) : Int), [], 0)])
def ciH (cd : Int → List Ins) (t : Int) : List Ins := if K (t + 1) = 123 ∨ K (t + 1) = 91 then ciL K L W ar TN S cd t else ciV W S t
/-- what stands behind the point at a, the E ahead of it of TYPE A -/
def ciO (cd : Int → List Ins) (a : Int) (A : List Int) : List Ins :=
  if K (a + 1) = 40 then [(6, wdC K L W ar TN S.1 S.2.1 (a + 2), L a, [], 0)]
  else if K (a + 2) = 91 ∨ K (a + 2) = 40 then ciP cd (exU K L (mO K L (a + 1)).2 (NM K L (a + 1))) ++ [(5, A, (NM K L (a + 1) : Int), (exY K L (a + 1)).map (fun y => wdC K L W ar TN S.1 S.2.1 y), W (a + 1))]
  else [(4, [], fIx (wEq W (a + 1)) 0 (fNm K L Ls (A.headD 0)), [], 0)]
/-- k points, the first at a -/
def ciS (ev : Int → Int × List Int) (cd : Int → List Ins) : Nat → Int → Int × List Int → List Ins
  | 0, _, _ => []
  | k + 1, a, r => if r.1 = 0 ∧ K a = 46 then ciO K L W ar TN Ls S cd a r.2 ++ ciS ev cd k (aPt K L a) (exO K L W ar kd TN Ls S ev a r.2) else []
/-- an E, m levels left -/
def ciE : Nat → Int → List Ins
  | 0, _ => []
  | m + 1, t => ciH K L W ar TN S (ciE m) t ++ ciS K L W ar kd TN Ls S (exE6 K L W ar kd TN Ls S m) (ciE m) 20 (aHd K L t) (exH K L W ar kd TN Ls S (exE6 K L W ar kd TN Ls S m) t)
end ZZBA
/-- TYPES that are kept -/
def kpz (P : Nat) (k : Int) (s : zS) (x : Int) (A : List Int) : Prop := 18738 ≤ x ∧ x + (A.length : Int) ≤ k ∧ WDz P s x A
/-- a row of code as it lies at pc; kept words up to k -/
def inz (P : Nat) (k : Int) (s : zS) (pc : Int) (I : Ins) : Prop := KI (s.2 (P + 34)) (6 * pc) = I.1 ∧ ((I.1 = 1 ∨ I.1 = 4) → KI (s.2 (P + 34)) (6 * pc + 1) = I.2.2.1) ∧ (I.1 = 3 → KI (s.2 (P + 34)) (6 * pc + 2) = I.2.2.1) ∧ (I.1 = 2 → kpz P k s (KI (s.2 (P + 34)) (6 * pc + 1)) I.2.1) ∧ (I.1 = 6 → kpz P k s (KI (s.2 (P + 34)) (6 * pc + 1)) I.2.1 ∧ KI (s.2 (P + 34)) (6 * pc + 2) = I.2.2.1) ∧ (I.1 = 5 → KI (s.2 (P + 34)) (6 * pc + 1) = I.2.2.2.2 ∧ KI (s.2 (P + 34)) (6 * pc + 2) = I.2.2.1 ∧ KI (s.2 (P + 34)) (6 * pc + 4) = (I.2.2.2.1.length : Int) ∧ kpz P k s (KI (s.2 (P + 34)) (6 * pc + 3)) I.2.2.2.1.flatten ∧ kpz P k s (KI (s.2 (P + 34)) (6 * pc + 5)) I.2.1)
/-- code C is added -/
def CDx (P : Nat) (k : Int) (s s' : zS) (C : List Ins) : Prop := ∃ pc : Int, 0 ≤ pc ∧ (s.1 (P + 34) 2).toInt = 6 * pc ∧ (s'.1 (P + 34) 2).toInt = 6 * (pc + (C.length : Int)) ∧ (∀ j : Nat, (j : Int) < 6 * pc → s'.2 (P + 34) j = s.2 (P + 34) j) ∧ ∀ (i : Nat) (I : Ins), C[i]? = some I → inz P k s' (pc + (i : Int)) I
section ZZBB
variable {P : Nat} {k k' T : Int} {s s' u w : zS} {C C' : List Ins} {I : Ins} {pc x : Int} {A : List Int} {a1 a2 a3 a4 a5 a6 v : Int32}
theorem kpz_e (h : CFe P T k s s') (g : kpz P k s x A) (hk : k ≤ k') : kpz P k' s' x A := ⟨g.1, by have := g.2.1; omega, CFe_wd h (by have := g.1; omega) (Or.inr ⟨g.1, g.2.1⟩) g.2.2⟩
/-- code stays where its Row and the kept words do -/
theorem inz_e (h : CFe P T k s s') (hk : k ≤ k') (hr : ∀ j : Nat, (j : Int) < 6 * (pc + 1) → s'.2 (P + 34) j = s.2 (P + 34) j) (h0 : 0 ≤ pc) (g : inz P k s pc I) : inz P k' s' pc I := by
  have e : ∀ i : Int, 0 ≤ i → i < 6 → KI (s'.2 (P + 34)) (6 * pc + i) = KI (s.2 (P + 34)) (6 * pc + i) := fun i i0 i6 => by
    rw [KI_p (by omega), KI_p (by omega), hr _ (by omega)]
  have e0 : KI (s'.2 (P + 34)) (6 * pc) = KI (s.2 (P + 34)) (6 * pc) := by
    have := e 0 (by decide) (by decide)
    rw [Int.add_zero] at this
    exact this
  obtain ⟨g0, g1, g3, g2, g6, g5⟩ := g
  refine ⟨e0.trans g0, fun z => (e 1 (by decide) (by decide)).trans (g1 z), fun z => (e 2 (by decide) (by decide)).trans (g3 z), fun z => ?_, fun z => ⟨?_, (e 2 (by decide) (by decide)).trans (g6 z).2⟩, fun z => ?_⟩
  · rw [e 1 (by decide) (by decide)]
    exact kpz_e h (g2 z) hk
  · rw [e 1 (by decide) (by decide)]
    exact kpz_e h (g6 z).1 hk
  · obtain ⟨q1, q2, q4, q3, q5⟩ := g5 z
    refine ⟨(e 1 (by decide) (by decide)).trans q1, (e 2 (by decide) (by decide)).trans q2, (e 4 (by decide) (by decide)).trans q4, ?_, ?_⟩
    · rw [e 3 (by decide) (by decide)]
      exact kpz_e h q3 hk
    · rw [e 5 (by decide) (by decide)]
      exact kpz_e h q5 hk
theorem CDx_rf {z : Int} (h0 : 0 ≤ z) (h : (s.1 (P + 34) 2).toInt = 6 * z) : CDx P k s s [] := ⟨z, h0, h, by rw [h]; show 6 * z = 6 * (z + ((0 : Nat) : Int)); omega, fun _ _ => rfl, fun i I hi => by cases hi⟩
/-- code behind code -/
theorem CDx_tr (h : CDx P k s u C) (g : CDx P k' u w C') (hF : CFe P T k u w) (hk : k ≤ k') : CDx P k' s w (C ++ C') := by
  obtain ⟨p, p0, p1, p2, p3, p4⟩ := h
  obtain ⟨q, q0, q1, q2, q3, q4⟩ := g
  have eq : q = p + (C.length : Int) := by omega
  subst eq
  refine ⟨p, p0, p1, by rw [q2, List.length_append]; omega, fun j hj => (q3 j (by omega)).trans (p3 j hj), fun i I hi => ?_⟩
  by_cases hl : i < C.length
  · rw [List.getElem?_append_left hl] at hi
    exact inz_e hF hk (fun j hj => q3 j (by omega)) (by omega) (p4 i I hi)
  · rw [List.getElem?_append_right (by omega)] at hi
    have := q4 (i - C.length) I hi
    rw [show p + (C.length : Int) + ((i - C.length : Nat) : Int) = p + (i : Int) by omega] at this
    exact this
/-- nothing else is done -/
theorem CDx_l (h : CFe P T k s u) (h1 : u.1 (P + 34) 2 = s.1 (P + 34) 2) (h2 : u.2 (P + 34) = s.2 (P + 34)) (g : CDx P k' u w C) : CDx P k' s w C := by
  obtain ⟨p, p0, p1, p2, p3, p4⟩ := g
  exact ⟨p, p0, by rw [← h1]; exact p1, p2, fun j hj => by rw [p3 j hj, h2], p4⟩
theorem CDx_r (h : CFe P T k u w) (hk : k ≤ k') (h1 : w.1 (P + 34) 2 = u.1 (P + 34) 2) (h2 : w.2 (P + 34) = u.2 (P + 34)) (g : CDx P k s u C) : CDx P k' s w C := by
  obtain ⟨p, p0, p1, p2, p3, p4⟩ := g
  refine ⟨p, p0, p1, by rw [h1]; exact p2, fun j hj => by rw [h2]; exact p3 j hj, fun i I hi => inz_e h hk (fun j _ => by rw [h2]) (by omega) (p4 i I hi)⟩
end ZZBB
