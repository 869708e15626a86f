/-! ===== the class: code as it lies ===== -/
/-- code C lies at pc, ahead of row e; TYPES kept up to k -/
def LYz (P : Nat) (k e : Int) (s : zS) (pc : Int) (C : List Ins) : Prop := 0 ≤ pc ∧ pc + (C.length : Int) ≤ e ∧ ∀ (i : Nat) (I : Ins), C[i]? = some I → inz P k s (pc + (i : Int)) I
/-- the funcs among the declarations: where, and their first tokens -/
def fnQi (K : Int → Int) : Nat → List Int → List (Nat × Int)
  | _, [] => []
  | i, t :: l => (if K t = 6 then [(i, t)] else []) ++ fnQi K (i + 1) l
/-- the end of a func's or of main's code -/
def lvI : Ins := (0, [], 0, [], 0)
/-- the code of a func, of main -/
def fnC (K L W ar kd : Int → Int) (TN Ls : List Int) (p : Nat × Int) : List Ins := ciE K L W ar kd TN Ls (fnS K L W ar TN Ls p.1 p.2) 10 (f_7 K L false (0, p.2)).2 ++ [lvI]
def mnC (K L W ar kd : Int → Int) (TN Ls : List Int) (mB : Int) : List Ins := ciE K L W ar kd TN Ls mnS 10 mB ++ [lvI]
section ZZLY
variable {P : Nat} {k k' e e' pc x z : Int} {s s' u : zS} {C : List Ins} {I : Ins} {A : List Int}
theorem kpz_k (h : ∀ j : Nat, 18738 ≤ (j : Int) → (j : Int) < k → s'.2 (P + 18) j = s.2 (P + 18) j) (hk : k ≤ k') (g : kpz P k s x A) : kpz P k' s' x A := by
  obtain ⟨g1, g2, g3⟩ := g
  refine ⟨g1, by omega, fun i c hc => ?_⟩
  have hi := (List.getElem?_eq_some_iff.mp hc).1
  rw [← g3 i c hc, KI_p (by omega), KI_p (by omega), h _ (by omega) (by omega)]
theorem inz_k (h : ∀ j : Nat, 18738 ≤ (j : Int) → (j : Int) < k → s'.2 (P + 18) j = s.2 (P + 18) j) (hk : k ≤ k') (hr : ∀ j : Nat, (j : Int) < 6 * (pc + 1) → s'.2 (P + 34) j = s.2 (P + 34) j) (h0 : 0 ≤ pc) (g : inz P k s pc I) : inz P k' s' pc I := by
  have e : ∀ i : Int, 0 ≤ i → i < 6 → KI (s'.2 (P + 34)) (6 * pc + i) = KI (s.2 (P + 34)) (6 * pc + i) := fun i i0 i6 => by
    rw [KI_p (by omega), KI_p (by omega), hr _ (by omega)]
  have e0 : KI (s'.2 (P + 34)) (6 * pc) = KI (s.2 (P + 34)) (6 * pc) := by
    have := e 0 (by decide) (by decide)
    rw [Int.add_zero] at this
    exact this
  obtain ⟨g0, g1, g3, g2, g6, g5⟩ := g
  refine ⟨e0.trans g0, fun z => (e 1 (by decide) (by decide)).trans (g1 z), fun z => (e 2 (by decide) (by decide)).trans (g3 z), fun z => ?_, fun z => ⟨?_, (e 2 (by decide) (by decide)).trans (g6 z).2⟩, fun z => ?_⟩
  · rw [e 1 (by decide) (by decide)]
    exact kpz_k h hk (g2 z)
  · rw [e 1 (by decide) (by decide)]
    exact kpz_k h hk (g6 z).1
  · obtain ⟨q1, q2, q4, q3, q5⟩ := g5 z
    refine ⟨(e 1 (by decide) (by decide)).trans q1, (e 2 (by decide) (by decide)).trans q2, (e 4 (by decide) (by decide)).trans q4, ?_, ?_⟩
    · rw [e 3 (by decide) (by decide)]
      exact kpz_k h hk q3
    · rw [e 5 (by decide) (by decide)]
      exact kpz_k h hk q5
theorem LYz_k (h : ∀ j : Nat, 18738 ≤ (j : Int) → (j : Int) < k → s'.2 (P + 18) j = s.2 (P + 18) j) (hk : k ≤ k') (hr : ∀ j : Nat, (j : Int) < 6 * e → s'.2 (P + 34) j = s.2 (P + 34) j) (he : e ≤ e') (g : LYz P k e s pc C) : LYz P k' e' s' pc C := by
  obtain ⟨g1, g2, g3⟩ := g
  refine ⟨g1, by omega, fun i I hi => ?_⟩
  have hl := (List.getElem?_eq_some_iff.mp hi).1
  exact inz_k h hk (fun j hj => hr j (by omega)) (by omega) (g3 i I hi)
/-- code that was added -/
theorem CDx_ly (h : CDx P k s s' C) (hz : (s.1 (P + 34) 2).toInt = 6 * z) : LYz P k (z + (C.length : Int)) s' z C ∧ (s'.1 (P + 34) 2).toInt = 6 * (z + (C.length : Int)) ∧ ∀ j : Nat, (j : Int) < 6 * z → s'.2 (P + 34) j = s.2 (P + 34) j := by
  obtain ⟨p, p0, p1, p2, p3, p4⟩ := h
  have ep : p = z := by omega
  subst ep
  exact ⟨⟨p0, Int.le_refl _, p4⟩, p2, p3⟩
end ZZLY
/-- the code of the funcs ahead of the f-th, in z rows -/
def FDz (K L W ar kd : Int → Int) (TN Ls : List Int) (P : Nat) (f : Nat) (z : Int) (s : zS) : Prop := 0 ≤ z ∧ (s.1 (P + 34) 2).toInt = 6 * z ∧ (∀ (g : Nat) (p : Nat × Int), g < f → (fnQi K 0 Ls)[g]? = some p → LYz P (s.1 P 10).toInt z s (fnc s P (g : Int) 8) (fnC K L W ar kd TN Ls p)) ∧ (f = 0 → z = 0) ∧ (0 < f → fnc s P ((0 : Nat) : Int) 8 = 0)
/-- whose code lies at 0: the first func's, or main's -/
def C0z (K L W ar kd : Int → Int) (TN Ls : List Int) (mB : Int) (P : Nat) (k z : Int) (s : zS) : Prop := LYz P k z s 0 (mnC K L W ar kd TN Ls mB) ∨ ∃ (g : Nat) (p : Nat × Int), (fnQi K 0 Ls)[g]? = some p ∧ LYz P k z s 0 (fnC K L W ar kd TN Ls p)
theorem C0z_m {K L W ar kd : Int → Int} {TN Ls : List Int} {mB k z k' z' : Int} {P : Nat} {s s' : zS} (h : ∀ C, LYz P k z s 0 C → LYz P k' z' s' 0 C) (g : C0z K L W ar kd TN Ls mB P k z s) : C0z K L W ar kd TN Ls mB P k' z' s' := by
  rcases g with g | ⟨f, p, h1, h2⟩
  · exact Or.inl (h _ g)
  · exact Or.inr ⟨f, p, h1, h _ h2⟩
/-- a program's tables and code, whole: funcs, main, main's TYPE -/
def CAz (K L W ar kd : Int → Int) (TN Ls : List Int) (n k0 mB : Int) (P : Nat) (s : zS) : Prop := CSz K L W ar kd TN Ls n k0 P s ∧ ∃ k z : Int, 6 * z ≤ (s.1 (P + 34) 2).toInt ∧ (k0 ≤ k ∧ 18738 ≤ k ∧ k ≤ 82938 ∧ z ≤ 4001) ∧ (∀ (g : Nat) (p : Nat × Int), (fnQi K 0 Ls)[g]? = some p → LYz P k z s (fnc s P (g : Int) 8) (fnC K L W ar kd TN Ls p)) ∧ LYz P k z s (s.1 P 12).toInt (mnC K L W ar kd TN Ls mB) ∧ kpz P k s (s.1 P 13).toInt (exE6 K L W ar kd TN Ls mnS 10 mB).2 ∧ (s.1 P 10).toInt = k ∧ C0z K L W ar kd TN Ls mB P k z s
