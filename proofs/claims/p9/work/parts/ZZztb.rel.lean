/-! ===== the class: a run, how it lies ===== -/
/-- a program's tables, its code: as they stand while it is loaded; gg: whether one is, STEPS in all -/
def PGz (K L W ar kd : Int → Int) (TN Ls : List Int) (n k0 mB : Int) (P : Nat) (k z : Int) (gg : Int × Int) (s : zS) : Prop := CSz K L W ar kd TN Ls n k0 P s ∧ (k0 ≤ k ∧ 18738 ≤ k ∧ k ≤ 82938 ∧ z ≤ 4001) ∧ (∀ (g : Nat) (p : Nat × Int), (fnQi K 0 Ls)[g]? = some p → LYz P k z s (fnc s P (g : Int) 8) (fnC K L W ar kd TN Ls p)) ∧ LYz P k z s (s.1 P 12).toInt (mnC K L W ar kd TN Ls mB) ∧ (kpz P k s (s.1 P 13).toInt (exE6 K L W ar kd TN Ls mnS 10 mB).2 ∧ (s.1 P 10).toInt = k ∧ C0z K L W ar kd TN Ls mB P k z s) ∧ (s.1 0 11).toInt = gg.1 ∧ (s.1 0 12).toInt = gg.2
/-- what a run may write: words from T on, its own Rows -/
def RUz (P : Nat) (T : Int) (s s' : zS) : Prop := (∀ r, ¬ r = P + 18 → ¬ r = 78 → ¬ r = 80 → ¬ r = 106 → ¬ r = 108 → ¬ r = 111 → ¬ (113 ≤ r ∧ r ≤ 195) → s'.2 r = s.2 r) ∧ (∀ j : Nat, ((j : Int) < T ∨ 18738 ≤ (j : Int)) → s'.2 (P + 18) j = s.2 (P + 18) j) ∧ ∀ c q, ¬ (c = 75 ∧ q = 3) → ¬ c = 105 → ¬ (c = 111 ∧ q = 2) → s'.1 c q = s.1 c q
section ZTC
variable {K L W ar kd : Int → Int} {TN Ls : List Int} {n k0 mB k z T T' x t : Int} {P e : Nat} {s s' u w : zS} {A : List Int} {η : Nat → List Int} {C : List Ins} {pc : Int} {gg : Int × Int}
theorem RUz_rf : RUz P T s s := ⟨fun _ _ _ _ _ _ _ _ => rfl, fun _ _ => rfl, fun _ _ _ _ _ => rfl⟩
theorem RUz_tr (h : RUz P T s u) (g : RUz P T' u w) (hT : T ≤ T') : RUz P T s w := ⟨fun r a1 a2 a3 a4 a5 a6 a7 => (g.1 r a1 a2 a3 a4 a5 a6 a7).trans (h.1 r a1 a2 a3 a4 a5 a6 a7), fun j hj => (g.2.1 j (by omega)).trans (h.2.1 j hj), fun c q a1 a2 a3 => (g.2.2 c q a1 a2 a3).trans (h.2.2 c q a1 a2 a3)⟩
theorem RUz_m (h : RUz P T' s u) (hT : T ≤ T') : RUz P T s u := RUz_tr RUz_rf h hT
theorem RUz_pf (h : PFz P T s s') : RUz P T s s' := ⟨fun r a1 _ _ _ _ _ _ => h.1 r a1, fun j hj => h.2.1 j hj, fun c q a1 _ _ => h.2.2 c q a1⟩
theorem RUz_mf (h : MFz P T s s') : RUz P T s s' := ⟨fun r a1 a2 a3 _ _ _ _ => h.2.1 r a1 a2 a3, fun j hj => h.2.2 j hj, fun c q _ _ _ => by rw [h.1]⟩
/-- fields of the Machine alone, Rows of its own -/
theorem RUz_o (hP : P = 3 ∨ P = 39) (h1 : ∀ r, ¬ r = 106 → ¬ r = 108 → ¬ r = 111 → ¬ (113 ≤ r ∧ r ≤ 195) → s'.2 r = s.2 r) (h2 : ∀ c q, ¬ c = 105 → ¬ (c = 111 ∧ q = 2) → s'.1 c q = s.1 c q) : RUz P T s s' := ⟨fun r _ _ _ a4 a5 a6 a7 => h1 r a4 a5 a6 a7, fun j _ => by rw [h1 _ (by omega) (by omega) (by omega) (by omega)], fun c q _ a2 a3 => h2 c q a2 a3⟩
theorem RUz_wd (h : RUz P T s s') {l : List Int} (h0 : 0 ≤ x) (hx : x + (l.length : Int) ≤ T ∨ 18738 ≤ x) (g : WDz P s x l) : WDz P s' x l := fun i c hc => by
  have hi := (List.getElem?_eq_some_iff.mp hc).1
  rw [← g i c hc, KI_p (by omega), KI_p (by omega), h.2.1 _ (by omega)]
theorem RUz_ty {nT nX nY : Int} (h : RUz P T s s') (g : TYc ar nT nX nY P T k s x A) (hT : T ≤ T') : TYc ar nT nX nY P T' k s' x A := ⟨⟨g.1.1, by have := g.1.2; omega⟩, RUz_wd h g.1.1 (by have := g.1.2; omega) g.2.1, g.2.2⟩
theorem RUz_kp (h : RUz P T s s') (g : kpz P k s x A) : kpz P k s' x A := kpz_k (fun j h1 _ => h.2.1 j (Or.inr h1)) (Int.le_refl _) g
theorem RUz_ly (hP : P = 3 ∨ P = 39) (h : RUz P T s s') (g : LYz P k z s pc C) : LYz P k z s' pc C := LYz_k (fun j h1 _ => h.2.1 j (Or.inr h1)) (Int.le_refl _) (fun j _ => by rw [h.1 _ (by omega) (by omega) (by omega) (by omega) (by omega) (by omega) (by omega)]) (Int.le_refl _) g
theorem RUz_en (hP : P = 3 ∨ P = 39) (h : RUz P T s s') (hr : s'.2 e = s.2 e) (hT : T ≤ T') (g : ENz P s e T η 12) : ENz P s' e T' η 12 := fun p hp => by
  obtain ⟨x, g1, g2, ⟨g3, g4, g5, g6⟩, g7⟩ := g p hp
  refine ⟨x, by rw [hr]; exact g1, by rw [hr]; exact g2, ⟨g3, g4, ?_, g6⟩, RUz_wd h g3 g5 g7⟩
  unfold APt at g5 ⊢
  omega
theorem PGz_u (hP : P = 3 ∨ P = 39) (hT : 18 ≤ T) (h : RUz P T s s') (g : PGz K L W ar kd TN Ls n k0 mB P k z gg s) : PGz K L W ar kd TN Ls n k0 mB P k z gg s' := by
  obtain ⟨g1, g2, g3, g4, g5, g6⟩ := g
  have h0 : ∀ q, s'.1 0 q = s.1 0 q := fun q => h.2.2 0 q (fun z => absurd z.1 (by decide)) (by decide) (fun z => absurd z.1 (by decide))
  have hr : ∀ r : Nat, r < 36 → ¬ r = 18 → s'.2 (P + r) = s.2 (P + r) := fun r r1 r2 => h.1 _ (by omega) (by omega) (by omega) (by omega) (by omega) (by omega) (by omega)
  have hf : ∀ q, s'.1 P q = s.1 P q := fun q => h.2.2 P q (fun z => by omega) (by omega) (fun z => by omega)
  refine ⟨CSz_g hP (fun r hr' => hr r (by omega) (by omega)) (fun j _ => by rw [hr 26 (by decide) (by decide)]) (fun j hj => h.2.1 j (by omega)) (fun j _ => by rw [hr 20 (by decide) (by decide)]) (fun b hb => h.2.2 b 2 (fun z => by omega) (by omega) (fun z => by omega)) g1, g2, fun g p hg => ?_, ?_, ?_, by rw [h0, h0]; exact g6⟩
  · have e : fnc s' P (g : Int) 8 = fnc s P (g : Int) 8 := by
      unfold fnc
      rw [hr 26 (by decide) (by decide)]
    rw [e]
    exact RUz_ly hP h (g3 g p hg)
  · rw [hf 12]
    exact RUz_ly hP h g4
  · rw [hf 13, hf 10]
    exact ⟨RUz_kp h g5.1, g5.2.1, C0z_m (fun C g => RUz_ly hP h g) g5.2.2⟩
end ZTC
/-- what stands on the stack, in a value -/
def itz (ar : Int → Int) (nT : Int) (P : Nat) (T k : Int) (s : zS) (vs : Vls) (x : Int) : Itm → Prop
  | .inl A => TYc ar nT 0 0 P T k s x A ∧ 4218 ≤ x
  | .inr v => v < vs.length ∧ x = (plv vs v : Int)
def STk (ar : Int → Int) (nT : Int) (P : Nat) (T k : Int) (s : zS) (vs : Vls) (st : List Itm) : Prop := ∀ (j : Nat) (it : Itm), st[j]? = some it → itz ar nT P T k s vs (KI (s.2 106) (j : Int)) it
def VLk (ar : Int → Int) (nT : Int) (P : Nat) (T k : Int) (s : zS) (vs : Vls) : Prop := ∀ (v : Nat) (A : List Int) (ps : List Nat), vs[v]? = some (A, ps) → TYc ar nT 0 0 P T k s (KI (s.2 111) (plv vs v : Int)) A ∧ (ps.length ≤ 6 ∧ 4218 ≤ KI (s.2 111) (plv vs v : Int)) ∧ ∀ (i u : Nat), ps[i]? = some u → u < vs.length ∧ KI (s.2 111) ((plv vs v : Int) + 1 + (i : Int)) = (plv vs u : Int)
def FRk (ar : Int → Int) (nT : Int) (P : Nat) (T k z : Int) (s : zS) : List Frm → Nat → Env → Prop
  | [], _, E => E = ([], [])
  | (C', b', E') :: fr, b, E => (KI (s.2 108) (2 * ((fr.length + 1 : Nat) : Int) + 1) = (b : Int) ∧ LYz P k z s (KI (s.2 108) (2 * ((fr.length + 1 : Nat) : Int))) C' ∧ ENz P s (113 + 2 * (fr.length + 1)) T (eta E.1 E.2) 12) ∧ (cdK ar nT (E'.1.length : Int) (E'.2.length : Int) C' ∧ enK ar nT E') ∧ FRk ar nT P T k z s fr b' E'
/-- numbers of the Machine; L0: STEPS it began with -/
def MFd (L0 : Int) (s : zS) (st : List Itm) (fr : List Frm) (vs : Vls) (l cl : Int) : Prop := ((s.1 105 13).toInt = 5 ∧ (s.1 105 9).toInt = l ∧ (s.1 105 10).toInt = L0 - l ∧ (s.1 105 11).toInt = cl ∧ (s.1 105 7).toInt = (st.length : Int) ∧ (s.1 105 8).toInt = (fr.length : Int) ∧ (s.1 111 2).toInt = (plv vs vs.length : Int)) ∧ (0 ≤ l ∧ l ≤ L0 ∧ L0 ≤ 5000) ∧ (0 ≤ cl ∧ cl ≤ L0 - l) ∧ ((vs.length : Int) ≤ L0 - l ∧ st.length ≤ 3901 ∧ fr.length ≤ 40)
/-- where new words go; no scope -/
def MTp (T l : Int) (s : zS) : Prop := ((s.1 75 3).toInt = T ∧ 4218 ≤ T ∧ T + l ≤ 9218) ∧ (s.1 75 4).toInt = -1 ∧ (s.1 75 6).toInt = -1
/-- it runs: the Machine stands as X says -/
def MRz (K L W ar kd : Int → Int) (TN Ls : List Int) (n k0 mB : Int) (P : Nat) (k z : Int) (gg : Int × Int) (L0 : Int) (X : PMs) (s : zS) : Prop := PGz K L W ar kd TN Ls n k0 mB P k z gg s ∧ ∃ T, MTp T X.2.2.2.2.2.2.2.1 s ∧ MFd L0 s X.2.2.1 X.2.2.2.2.2.1 X.2.2.2.2.2.2.1 X.2.2.2.2.2.2.2.1 X.2.2.2.2.2.2.2.2.1 ∧ (LYz P k z s (s.1 105 6).toInt X.2.1 ∧ cdK ar (TN.length : Int) (X.2.2.2.2.1.1.length : Int) (X.2.2.2.2.1.2.length : Int) X.2.1 ∧ enK ar (TN.length : Int) X.2.2.2.2.1) ∧ STk ar (TN.length : Int) P T k s X.2.2.2.2.2.2.1 X.2.2.1 ∧ VLk ar (TN.length : Int) P T k s X.2.2.2.2.2.2.1 ∧ FRk ar (TN.length : Int) P T k z s X.2.2.2.2.2.1 X.2.2.2.1 X.2.2.2.2.1
/-- it has ended -/
def HLz (K L W ar kd : Int → Int) (TN Ls : List Int) (n k0 mB : Int) (P : Nat) (k z : Int) (gg : Int × Int) (L0 : Int) (X : PMs) (s : zS) : Prop := PGz K L W ar kd TN Ls n k0 mB P k z gg s ∧ ((s.1 105 13).toInt = X.1 ∧ (s.1 105 10).toInt = L0 - X.2.2.2.2.2.2.2.1 ∧ (s.1 105 11).toInt = X.2.2.2.2.2.2.2.2.1 ∧ (0 ≤ X.2.2.2.2.2.2.2.1 ∧ X.2.2.2.2.2.2.2.1 ≤ L0)) ∧ (X.1 = 1 → (s.1 105 12).toInt = X.2.2.2.2.2.2.2.2.2) ∧ (X.1 = 0 → ∃ (T : Int) (v : Nat), (T ≤ 9218 ∧ (X.2.2.2.2.2.2.1.length : Int) ≤ 5000) ∧ X.2.2.1[X.2.2.1.length - 1]? = some (.inr v) ∧ v < X.2.2.2.2.2.2.1.length ∧ (s.1 105 14).toInt = (plv X.2.2.2.2.2.2.1 v : Int) ∧ VLk ar (TN.length : Int) P T k s X.2.2.2.2.2.2.1)
section ZTD
variable {ar : Int → Int} {nT T T' k z x l : Int} {P : Nat} {s s' : zS} {vs : Vls} {st : List Itm} {it : Itm} {fr : List Frm} {b : Nat} {E : Env} {q : List Int × List Nat} {gg : Int × Int}
theorem itz_u (h : RUz P T s s') (hT : T ≤ T') (g : itz ar nT P T k s vs x it) : itz ar nT P T' k s' vs x it := by
  cases it with
  | inl A => exact ⟨RUz_ty h g.1 hT, g.2⟩
  | inr v => exact g
theorem itz_v (g : itz ar nT P T k s vs x it) : itz ar nT P T k s (vs ++ [q]) x it := by
  cases it with
  | inl A => exact g
  | inr v =>
    obtain ⟨g1, g2⟩ := g
    refine ⟨by rw [List.length_append]; omega, ?_⟩
    rw [plv_a (by omega)]
    exact g2
theorem STk_u (h : RUz P T s s') (hT : T ≤ T') (hr : ∀ j : Nat, j < st.length → s'.2 106 j = s.2 106 j) (g : STk ar nT P T k s vs st) : STk ar nT P T' k s' vs st := fun j it hj => by
  have hl := (List.getElem?_eq_some_iff.mp hj).1
  have := itz_u h hT (g j it hj)
  rw [KI_p (by omega), show ((j : Int)).toNat = j by omega] at this ⊢
  rw [hr j hl]
  exact this
theorem VLk_u (h : RUz P T s s') (hT : T ≤ T') (hr : s'.2 111 = s.2 111) (g : VLk ar nT P T k s vs) : VLk ar nT P T' k s' vs := fun v A ps hv => by
  obtain ⟨g1, g2, g3⟩ := g v A ps hv
  rw [hr]
  exact ⟨RUz_ty h g1 hT, g2, g3⟩
theorem FRk_u (hP : P = 3 ∨ P = 39) (h : RUz P T s s') (hT : T ≤ T') : ∀ (fr : List Frm) (b : Nat) (E : Env), (∀ j : Nat, j ≤ 2 * fr.length + 1 → s'.2 108 j = s.2 108 j) → (∀ i : Nat, i ≤ fr.length → s'.2 (113 + 2 * i) = s.2 (113 + 2 * i)) → FRk ar nT P T k z s fr b E → FRk ar nT P T' k z s' fr b E
  | [], _, _, _, _, g => g
  | (C', b', E') :: fr, b, E, h1, h2, g => by
    obtain ⟨⟨g1, g2, g3⟩, g4, g5⟩ := g
    have hl : ((C', b', E') :: fr).length = fr.length + 1 := rfl
    have e : ∀ j : Int, 0 ≤ j → j ≤ 2 * ((fr.length + 1 : Nat) : Int) + 1 → KI (s'.2 108) j = KI (s.2 108) j := fun j j0 j1 => by
      rw [KI_p j0, KI_p j0, h1 _ (by omega)]
    refine ⟨⟨?_, ?_, ?_⟩, g4, FRk_u hP h hT fr b' E' (fun j hj => h1 j (by omega)) (fun i hi => h2 i (by omega)) g5⟩
    · rw [e _ (by omega) (by omega)]
      exact g1
    · rw [e _ (by omega) (by omega)]
      exact RUz_ly hP h g2
    · exact RUz_en hP h (h2 (fr.length + 1) (by omega)) hT g3
end ZTD
