/-! ===== the class's tables are the program's ===== -/
/-- the cells of declaration i -/
def CDc (K L W : Int → Int) (Ls : List Int) (P : Nat) (u : zS) (i : Nat) (t : Int) : Prop := (K t = 6 → (dcl u P (i : Int) 0 = -1 - (kFn K (Ls.take i) : Int) ∧ dcl u P (i : Int) 1 = ((aSl K L 0 (Ls.take i)).length : Int) ∧ dcl u P (i : Int) 2 = ((aSl K L 0 (Ls.take i)).length : Int) + ((sDc K L (kHd K L (Ls.take i) : Int) t).length : Int)) ∧ fnc u P (kFn K (Ls.take i) : Int) 0 = (f_2 K L false (0, t)).2 ∧ fnc u P (kFn K (Ls.take i) : Int) 1 = (f_1 K L false (0, t)).2 ∧ fnc u P (kFn K (Ls.take i) : Int) 3 = ((aSl K L 0 (Ls.take i)).length : Int) + 1 ∧ fnc u P (kFn K (Ls.take i) : Int) 4 = ((fPa K L false (0, t)).length : Int) ∧ fnc u P (kFn K (Ls.take i) : Int) 5 = (kHd K L (Ls.take i) : Int) ∧ fnc u P (kFn K (Ls.take i) : Int) 6 = W (f_5 K L false (0, t)).2 ∧ fnc u P (kFn K (Ls.take i) : Int) 7 = (f_7 K L false (0, t)).2) ∧ (¬ K t = 6 → (dcl u P (i : Int) 0 = (kTy K (Ls.take i) : Int) ∧ dcl u P (i : Int) 1 = ((aSl K L 0 (Ls.take i)).length : Int) ∧ dcl u P (i : Int) 2 = ((aSl K L 0 (Ls.take i)).length : Int) + ((sDc K L (kHd K L (Ls.take i) : Int) t).length : Int)) ∧ tyc u P (kTy K (Ls.take i) : Int) 0 = t + 1 ∧ tyc u P (kTy K (Ls.take i) : Int) 2 = ((aSl K L 0 (Ls.take i)).length : Int) ∧ tyc u P (kTy K (Ls.take i) : Int) 3 = (if tSt K L false (0, t) = true then ((aSl K L 0 (Ls.take i)).length : Int) + ((tFo K L false (0, t)).length : Int) else (kHd K L (Ls.take i) : Int)) ∧ tyc u P (kTy K (Ls.take i) : Int) 4 = ((tMe K L false (0, t)).length : Int))
/-- the cells of HEAD j of declaration i: its slots from j0 on among the declaration's -/
def CHd (K L W : Int → Int) (Ls : List Int) (P : Nat) (u : zS) (i j : Nat) (t q : Int) : Prop := ∃ j0 : Nat, (sgc u P ((kHd K L (Ls.take i) + j : Nat) : Int) 0 = q ∧ sgc u P ((kHd K L (Ls.take i) + j : Nat) : Int) 1 = W q ∧ sgc u P ((kHd K L (Ls.take i) + j : Nat) : Int) 2 = (((aSl K L 0 (Ls.take i)).length + j0 : Nat) : Int) ∧ sgc u P ((kHd K L (Ls.take i) + j : Nat) : Int) 3 = ((h_f K L (0, q + 1)).length : Int) ∧ sgc u P ((kHd K L (Ls.take i) + j : Nat) : Int) 4 = ((h_v K L (0, q + 1)).length : Int)) ∧ ∀ (k : Nat) x, (hSlt K L ((kHd K L (Ls.take i) + j : Nat) : Int) (0, q + 1))[k]? = some x → (sDc K L (kHd K L (Ls.take i) : Int) t)[j0 + k]? = some x
def CSz (K L W ar kd : Int → Int) (TN Ls : List Int) (n k0 : Int) (P : Nat) (u : zS) : Prop := DBz K L W ar kd n P u TN ∧ SGz P u ∧ FNi P u (cfO K L W TN Ls) (TN.length : Int) (kFn K Ls) ∧ SLc P u (aSl K L 0 Ls) ∧ (SWz K L W ar TN (hfS K L Ls) P u Ls k0 (aSl K L 0 Ls).length ∧ k0 ≤ 22738) ∧ (∀ (i : Nat) (t : Int), Ls[i]? = some t → CDc K L W Ls P u i t ∧ ∀ (j : Nat) (q : Int), (dHd K L t)[j]? = some q → CHd K L W Ls P u i j t q) ∧ (zsz u (P + 24) = 6 * (kTy K Ls : Int) ∧ zsz u (P + 26) = 10 * (kFn K Ls : Int) ∧ zsz u (P + 32) = 3 * (Ls.length : Int)) ∧ ((aSl K L 0 Ls).length ≤ 4000 ∧ kHd K L Ls ≤ 4000)
section Z5C
variable {K L W ar kd : Int → Int} {n lo hi m k0 : Int} {TN Ls : List Int} {i j P : Nat} {t q : Int} {s u : zS}
theorem sgc_n {d c : Nat} : sgc s P (d : Int) (c : Int) = (s.2 (P + 28) (5 * d + c)).toInt := by
  unfold sgc
  rw [show 5 * (d : Int) + (c : Int) = ((5 * d + c : Nat) : Int) by omega, KI_n]
theorem CHd_of (hC : dcC K L lo hi Ls) (hA : ALz K L P s m Ls) (hW : KI (s.2 (P + 10)) = W) (h1 : Ls[i]? = some t) (h2 : (dHd K L t)[j]? = some q) : CHd K L W Ls P s i j t q := by
  obtain ⟨aF, aT⟩ := hA i t h1
  obtain ⟨d1, d2, d3⟩ := dcC_at Ls i t lo hi hC h1
  have fin : ∀ {b fc vc : Int} (j0 : Nat), SGat s P (kHd K L (Ls.take i) + j) q b fc vc → b = (((aSl K L 0 (Ls.take i)).length + j0 : Nat) : Int) → fc = ((h_f K L (0, q + 1)).length : Int) → vc = ((h_v K L (0, q + 1)).length : Int) → (∀ (k : Nat) x, (hSlt K L ((kHd K L (Ls.take i) + j : Nat) : Int) (0, q + 1))[k]? = some x → (sDc K L (kHd K L (Ls.take i) : Int) t)[j0 + k]? = some x) → CHd K L W Ls P s i j t q := fun j0 g e1 e2 e3 g2 => by
    obtain ⟨g0, g1, g3, g4, g5⟩ := g
    refine ⟨j0, ⟨?_, ?_, ?_, ?_, ?_⟩, g2⟩
    · rw [show (0 : Int) = ((0 : Nat) : Int) from rfl, sgc_n]
      exact g0
    · rw [show (1 : Int) = ((1 : Nat) : Int) from rfl, sgc_n, ← hW]
      exact g1
    · rw [show (2 : Int) = ((2 : Nat) : Int) from rfl, sgc_n, ← e1]
      exact g3
    · rw [show (3 : Int) = ((3 : Nat) : Int) from rfl, sgc_n, ← e2]
      exact g4
    · rw [show (4 : Int) = ((4 : Nat) : Int) from rfl, sgc_n, ← e3]
      exact g5
  unfold dHd at h2
  by_cases h6 : K t = 6
  · rw [if_pos h6] at h2
    have hj : j = 0 := by
      have := (List.getElem?_eq_some_iff.mp h2).1
      simp only [List.length_cons, List.length_nil] at this
      omega
    subst hj
    have e : (f_5 K L false (0, t)).2 = q := by simpa using h2
    obtain ⟨f1, f2, f3, f4, f5, f6, f7, -⟩ := f7_fw (fn_fw (d2 h6).1).1
    have e6 : f_6 K L false (0, t) = (0, q + 1) := by
      rw [f7, ← e, f6]
      show ((0 : Int), (f_4 K L false (0, t)).2 + 2) = (0, (f_4 K L false (0, t)).2 + 1 + 1)
      rw [show (f_4 K L false (0, t)).2 + 2 = (f_4 K L false (0, t)).2 + 1 + 1 by omega]
    have g := (aF h6).1
    rw [e6, e] at g
    refine fin (1 + (fPa K L false (0, t)).length) g (by omega) rfl rfl (fun k x hx => ?_)
    unfold sDc
    rw [if_pos h6]
    unfold fSlt
    rw [e6, show 1 + (fPa K L false (0, t)).length + k = ((fPa K L false (0, t)).length + k) + 1 by omega, List.getElem?_cons_succ, app_at (by unfold prS; rw [List.length_map])]
    exact hx
  · rw [if_neg h6] at h2
    by_cases hst : tSt K L false (0, t) = true
    · rw [if_pos hst] at h2
      cases h2
    · rw [if_neg hst] at h2
      have hst' : tSt K L false (0, t) = false := by
        cases hb : tSt K L false (0, t) with
        | false => rfl
        | true => exact absurd hb hst
      have g := SGhs_at _ _ j _ q ((aT h6).1 hst') h2
      refine fin ((tFo K L false (0, t)).length + (hsL K L (kHd K L (Ls.take i) : Int) ((tMe K L false (0, t)).take j)).length) g (by omega) rfl rfl (fun k x hx => ?_)
      unfold sDc
      rw [if_neg h6]
      unfold tSlt
      rw [if_neg hst, Nat.add_assoc, app_at nmS_len]
      refine hsL_at _ j k _ q x h2 ?_
      rw [show (kHd K L (Ls.take i) : Int) + (j : Int) = ((kHd K L (Ls.take i) + j : Nat) : Int) by omega]
      exact hx
theorem CDc_of (hC : dcC K L lo hi Ls) (hA : ALz K L P s m Ls) (hW : KI (s.2 (P + 10)) = W) (h1 : Ls[i]? = some t) : CDc K L W Ls P s i t := by
  obtain ⟨aF, aT⟩ := hA i t h1
  refine ⟨fun h6 => ?_, fun h6 => ?_⟩
  · obtain ⟨g0, ⟨f0, f1, f2, f3, f4, f5, f6, f7, -⟩, ⟨c0, c1, c2⟩, -⟩ := aF h6
    refine ⟨⟨?_, ?_, ?_⟩, ?_, ?_, ?_, ?_, ?_, ?_, ?_⟩
    · rw [show (0 : Int) = ((0 : Nat) : Int) from rfl, dcl_n]
      exact c0
    · rw [show (1 : Int) = ((1 : Nat) : Int) from rfl, dcl_n]
      exact c1
    · rw [show (2 : Int) = ((2 : Nat) : Int) from rfl, dcl_n]
      exact c2
    · rw [show (0 : Int) = ((0 : Nat) : Int) from rfl, fnc_n]
      exact f0
    · rw [show (1 : Int) = ((1 : Nat) : Int) from rfl, fnc_n]
      exact f1
    · rw [show (3 : Int) = ((3 : Nat) : Int) from rfl, fnc_n]
      exact f3
    · rw [show (4 : Int) = ((4 : Nat) : Int) from rfl, fnc_n]
      exact f4
    · rw [show (5 : Int) = ((5 : Nat) : Int) from rfl, fnc_n]
      exact f5
    · rw [show (6 : Int) = ((6 : Nat) : Int) from rfl, fnc_n, f6, Int.toNat_natCast, g0.2.1, hW]
    · rw [show (7 : Int) = ((7 : Nat) : Int) from rfl, fnc_n]
      exact f7
  · obtain ⟨-, -, ⟨f0, f1, f2, f3, f4, -⟩, ⟨c0, c1, c2⟩⟩ := aT h6
    refine ⟨⟨?_, ?_, ?_⟩, ?_, ?_, ?_, ?_⟩
    · rw [show (0 : Int) = ((0 : Nat) : Int) from rfl, dcl_n]
      exact c0
    · rw [show (1 : Int) = ((1 : Nat) : Int) from rfl, dcl_n]
      exact c1
    · rw [show (2 : Int) = ((2 : Nat) : Int) from rfl, dcl_n]
      exact c2
    · rw [show (0 : Int) = ((0 : Nat) : Int) from rfl, tyc_n]
      exact f0
    · rw [show (2 : Int) = ((2 : Nat) : Int) from rfl, tyc_n]
      exact f2
    · rw [show (3 : Int) = ((3 : Nat) : Int) from rfl, tyc_n]
      exact f3
    · rw [show (4 : Int) = ((4 : Nat) : Int) from rfl, tyc_n]
      exact f4
/-- behind the telling -/
theorem CS_of (hP : P = 3 ∨ P = 39) (hC : dcC K L lo hi Ls) (hlo : 0 ≤ lo) (hhi : hi ≤ 4000) (hm : m ≤ 4000) (hD : DBz K L W ar kd n P s TN) (hS : SGz P s) (hR : RWz K L P s m Ls) (hA : ALz K L P s m Ls) (hT : TAf P s u) (h3 : TA3 K L W ar kd TN P hi Ls Ls.length u) : ∃ k0, CSz K L W ar kd TN Ls n k0 P u := by
  obtain ⟨-, ⟨mi, m1, m2, m3, m4⟩, t3, t4⟩ := h3
  rw [List.take_length] at t3 t4
  have hle := srtQ_le m4
  obtain ⟨⟨z1, z2, z3, z4, z5⟩, w1, w2, w3, -⟩ := hR
  have hW := hD.1.2.2.1
  have ed : ∀ i c, dcl u P i c = dcl s P i c := fun i c => by
    unfold dcl
    rw [TAf_r hT (by decide) (by decide) (by decide) (by decide) (by decide)]
  have zz : ∀ r : Nat, ¬ r = 50 → zsz u (P + r) = zsz s (P + r) ∨ True := fun r _ => Or.inr trivial
  refine ⟨(u.1 P 10).toInt, DBz_f hP hT hD, fun i hi => ?_, t4, SLc_f hT (SLc_of w1).1, ⟨t3, by omega⟩, fun i t h1 => ⟨?_, fun j q h2 => ?_⟩, ⟨?_, ?_, ?_⟩, by omega, by omega⟩
  · rw [← hS i hi, KI_n, KI_n, hT.2.2.1 i (by omega)]
  · obtain ⟨cF, cT⟩ := CDc_of (W := W) hC hA hW h1
    refine ⟨fun h6 => ?_, fun h6 => ?_⟩
    · rw [ed, ed, ed, TAf_fn hT (by omega) (by decide) (by decide) (by decide), TAf_fn hT (by omega) (by decide) (by decide) (by decide), TAf_fn hT (by omega) (by decide) (by decide) (by decide), TAf_fn hT (by omega) (by decide) (by decide) (by decide), TAf_fn hT (by omega) (by decide) (by decide) (by decide), TAf_fn hT (by omega) (by decide) (by decide) (by decide), TAf_fn hT (by omega) (by decide) (by decide) (by decide)]
      exact cF h6
    · rw [ed, ed, ed, TAf_ty hT (by omega) (by decide), TAf_ty hT (by omega) (by decide), TAf_ty hT (by omega) (by decide), TAf_ty hT (by omega) (by decide)]
      exact cT h6
  · obtain ⟨j0, g1, g2⟩ := CHd_of hC hA hW h1 h2
    refine ⟨j0, ?_, g2⟩
    rw [TAf_sg hT, TAf_sg hT, TAf_sg hT, TAf_sg hT, TAf_sg hT]
    exact g1
  · unfold zsz at *
    rw [hT.1 (P + 24) 2 (fun w => by omega) (fun w => by omega)]
    exact z1
  · unfold zsz at *
    rw [hT.1 (P + 26) 2 (fun w => by omega) (fun w => by omega)]
    exact z2
  · unfold zsz at *
    rw [hT.1 (P + 32) 2 (fun w => by omega) (fun w => by omega)]
    exact z5
end Z5C
