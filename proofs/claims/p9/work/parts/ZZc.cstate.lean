/-! ===== the class: the state in which E are typed ===== -/
/-- what typing may write: words from t on, kept ones from k on, code, envs, at, top, kept, fault -/
def CFe (P : Nat) (t k : Int) (s s' : zS) : Prop := (∀ r, ¬ r = P + 18 → ¬ r = P + 20 → ¬ r = P + 34 → ¬ r = 76 → ¬ r = 78 → ¬ r = 80 → s'.2 r = s.2 r) ∧ (∀ j : Nat, ((j : Int) < t ∨ (18738 ≤ (j : Int) ∧ (j : Int) < k)) → s'.2 (P + 18) j = s.2 (P + 18) j) ∧ (∀ j : Nat, (j : Int) < k - 18738 → s'.2 (P + 20) j = s.2 (P + 20) j) ∧ ∀ c q, ¬ (c = 75 ∧ q = 3) → ¬ (c = P ∧ (q = 10 ∨ q = 14)) → ¬ (c = 84 ∧ q = 5) → ¬ (c = P + 34 ∧ q = 2) → s'.1 c q = s.1 c q
/-- a TYPE at its place, top at T, kept up to k -/
def TYc (ar : Int → Int) (nT nX nY : Int) (P : Nat) (T k : Int) (s : zS) (r : Int) (A : List Int) : Prop := (0 ≤ r ∧ (r + (A.length : Int) ≤ T ∨ (18738 ≤ r ∧ r + (A.length : Int) ≤ k))) ∧ WDz P s r A ∧ isR ar 1 A ∧ (A.length ≤ 60 ∧ cdT nT A) ∧ cdW nX nY A
/-- whose PARAMS hold -/
def CSc (K L W ar : Int → Int) (TN Ls : List Int) (S : Scp) (s : zS) : Prop := ∃ c sg : Int, (s.1 75 4).toInt = c ∧ (s.1 75 6).toInt = sg ∧ ar c = (S.2.1.length : Int) ∧ (S.2.1 ≠ [] → 0 ≤ c ∧ c < (kTy K Ls : Int)) ∧ (S.1 = [] ∨ ∃ g : Nat, g < kHd K L Ls ∧ sg = (g : Int) ∧ S.1.length = (hdd K L W ar TN Ls g).1) ∧ S.2.2.1 = bnD (Bfd K L W ar TN Ls) (hdd K L W ar TN Ls) c sg
/-- the VARS, their TYPES -/
def VCz (P : Nat) (k0 T0 : Int) (S : Scp) (s : zS) : Prop := ((s.1 84 6).toInt < 0 ∧ S.2.2.2.1 = []) ∨ ∃ (v0 : Int) (vs : List Int) (A0 : List Int) (As : List (List Int)) (b0 : Int), S.2.2.2.1 = v0 :: vs ∧ S.2.2.2.2 = A0 :: As ∧ As.length = vs.length ∧ vs.length ≤ 6 ∧ (0 ≤ (s.1 84 6).toInt ∧ (s.1 84 6).toInt ≤ 60) ∧ fnc s P (s.1 84 6).toInt 1 = v0 ∧ (s.1 84 7).toInt = 18 ∧ 18 + (A0.length : Int) ≤ T0 ∧ WDz P s 18 A0 ∧ (0 ≤ (s.1 75 6).toInt ∧ (s.1 75 6).toInt ≤ 4000) ∧ sgc s P (s.1 75 6).toInt 4 = (vs.length : Int) ∧ sgc s P (s.1 75 6).toInt 2 + sgc s P (s.1 75 6).toInt 3 = b0 ∧ (0 ≤ b0 ∧ b0 ≤ 4000) ∧ (∀ (i : Nat) (v : Int), vs[i]? = some v → slc s P (b0 + (i : Int)) 0 = v) ∧ ∀ (i : Nat) (A : List Int), As[i]? = some A → 18738 ≤ slc s P (b0 + (i : Int)) 3 ∧ slc s P (b0 + (i : Int)) 3 + (A.length : Int) ≤ k0 ∧ WDz P s (slc s P (b0 + (i : Int)) 3) A
/-- TYPES of VARS are TYPES -/
def VTy (ar : Int → Int) (nT : Int) (S : Scp) : Prop := ∀ A ∈ S.2.2.2.2, isR ar 1 A ∧ (A.length ≤ 60 ∧ cdT nT A) ∧ cdW (S.2.1.length : Int) (S.1.length : Int) A
def CIn (K L W ar kd : Int → Int) (TN Ls : List Int) (n k0 : Int) (S : Scp) (P : Nat) (lo hi T0 : Int) (s : zS) : Prop := CSz K L W ar kd TN Ls n k0 P s ∧ SCz P s S.1 S.2.1 ∧ LAz K L P lo hi s ∧ CSc K L W ar TN Ls S s ∧ VCz P k0 T0 S s
section ZZST
variable {K L W ar kd : Int → Int} {TN Ls : List Int} {n k0 lo hi T0 t t' k k' T T' nT nX nY r : Int} {S : Scp} {P : Nat} {s s' u w : zS} {A l : List Int}
theorem CFe_rf : CFe P t k s s := ⟨fun _ _ _ _ _ _ _ => rfl, fun _ _ => rfl, fun _ _ => rfl, fun _ _ _ _ _ _ => rfl⟩
theorem CFe_tr (h : CFe P t k s u) (g : CFe P t' k' u w) (ht : t ≤ t') (hk : k ≤ k') : CFe P t k s w := ⟨fun r h1 h2 h3 h4 h5 h6 => (g.1 r h1 h2 h3 h4 h5 h6).trans (h.1 r h1 h2 h3 h4 h5 h6), fun j hj => (g.2.1 j (by omega)).trans (h.2.1 j hj), fun j hj => (g.2.2.1 j (by omega)).trans (h.2.2.1 j hj), fun c q h1 h2 h3 h4 => (g.2.2.2 c q h1 h2 h3 h4).trans (h.2.2.2 c q h1 h2 h3 h4)⟩
theorem CFe_mo (h : CFe P t' k' s u) (ht : t ≤ t') (hk : k ≤ k') : CFe P t k s u := CFe_tr CFe_rf h ht hk
theorem CFe_f {c q : Nat} {x : Int32} (h : (c = 75 ∧ q = 3) ∨ (c = P ∧ (q = 10 ∨ q = 14)) ∨ (c = 84 ∧ q = 5)) : CFe P t k s (zf s c q x) := ⟨fun _ _ _ _ _ _ _ => rfl, fun _ _ => rfl, fun _ _ => rfl, fun b e h1 h2 h3 _ => by
  rw [zf_1, if_neg]
  rintro ⟨rfl, rfl⟩
  rcases h with z | z | z
  · exact h1 z
  · exact h2 z
  · exact h3 z⟩
theorem CFe_tl (h : TLf P k s s') (ht : t ≤ 18738) (hk : 18738 ≤ k) : CFe P t k s s' := ⟨fun r h1 h2 _ _ _ _ => h.2.1 r h1 h2, fun j hj => h.2.2.1 j (by omega), fun j hj => h.2.2.2 j hj, fun c q _ h2 _ _ => h.1 c q h2⟩
theorem CFe_pf (h : PFz P t s s') : CFe P t k s s' := ⟨fun r h1 _ _ _ _ _ => h.1 r h1, fun j hj => h.2.1 j (by omega), fun j hj => by rw [h.1 _ (by omega)], fun c q h1 _ _ _ => h.2.2 c q h1⟩
theorem CFe_rz (hP : P = 3 ∨ P = 39) (h : RFz P t s s') (hf : ∀ b q, ¬ (b = 75 ∧ q = 3) → ¬ (b = P ∧ q = 14) → s'.1 b q = s.1 b q) : CFe P t k s s' := ⟨fun r h1 _ _ h2 h3 h4 => h.1 r h1 h2 h3 h4, fun j hj => h.2 j (by omega), fun j hj => by rw [h.1 _ (by omega) (by omega) (by omega) (by omega)], fun c q h1 h2 _ _ => hf c q h1 (fun z => h2 ⟨z.1, Or.inr z.2⟩)⟩
theorem CFe_df (hP : P = 3 ∨ P = 39) (h : DFz P s s') : CFe P t k s s' := ⟨fun r _ _ h3 _ _ _ => h.1 r h3, fun j _ => by rw [h.1 _ (by omega)], fun j _ => by rw [h.1 _ (by omega)], fun c q _ _ _ h4 => h.2 c q h4⟩
theorem CFe_en (hP : P = 3 ∨ P = 39) (h1 : s'.1 = s.1) (h2 : ∀ r, ¬ r = 76 → s'.2 r = s.2 r) : CFe P t k s s' := ⟨fun r _ _ _ h _ _ => h2 r h, fun j _ => by rw [h2 _ (by omega)], fun j _ => by rw [h2 _ (by omega)], fun c q _ _ _ _ => by rw [h1]⟩
theorem CFe_ke (hP : P = 3 ∨ P = 39) (ht : t ≤ 18738) (hk : 18738 ≤ k) (h1 : ∀ r, ¬ r = P + 18 → s'.2 r = s.2 r) (h2 : ∀ j : Nat, ((j : Int) < k ∨ k + 60 ≤ (j : Int)) → s'.2 (P + 18) j = s.2 (P + 18) j) (h3 : ∀ c q, ¬ (c = P ∧ q = 10) → s'.1 c q = s.1 c q) : CFe P t k s s' := ⟨fun r h _ _ _ _ _ => h1 r h, fun j hj => h2 j (by omega), fun j _ => by rw [h1 _ (by omega)], fun c q _ h4 _ _ => h3 c q (fun z => h4 ⟨z.1, Or.inl z.2⟩)⟩
theorem CFe_wd (h : CFe P t k s s') (h0 : 0 ≤ r) (hx : r + (l.length : Int) ≤ t ∨ (18738 ≤ r ∧ r + (l.length : Int) ≤ k)) (g : WDz P s r l) : WDz P s' r l := fun i c hc => by
  have hi := (List.getElem?_eq_some_iff.mp hc).1
  rw [← g i c hc, KI_p (by omega), KI_p (by omega), h.2.1 _ (by omega)]
theorem CFe_tt (h : CFe P t k s s') (h0 : 18738 ≤ r) (hx : r + (l.length : Int) ≤ k) (g : TTz P s r l) : TTz P s' r l := fun i c hc => by
  have hi := (List.getElem?_eq_some_iff.mp hc).1
  rw [← g i c hc, KI_p (by omega), KI_p (by omega), h.2.2.1 _ (by omega)]
theorem TYc_e (h : CFe P T k s s') (g : TYc ar nT nX nY P T k s r A) (hT : T ≤ T') (hk : k ≤ k') : TYc ar nT nX nY P T' k' s' r A := ⟨⟨g.1.1, by have := g.1.2; omega⟩, CFe_wd h g.1.1 g.1.2 g.2.1, g.2.2⟩
theorem CFe_r (h : CFe P t k s s') {r : Nat} (hr : r < 18 ∨ (20 < r ∧ r < 34)) (hP : P = 3 ∨ P = 39) : s'.2 (P + r) = s.2 (P + r) := h.1 _ (by omega) (by omega) (by omega) (by omega) (by omega) (by omega)
theorem CFe_z (h : CFe P t k s s') {b : Nat} (hP : P = 3 ∨ P = 39) (hb : ¬ b = P + 34) : s'.1 b 2 = s.1 b 2 := h.2.2.2 b 2 (fun z => absurd z.2 (by decide)) (fun z => by omega) (fun z => absurd z.2 (by decide)) (fun z => hb z.1)
theorem CFe_75 (h : CFe P t k s s') {q : Nat} (hP : P = 3 ∨ P = 39) (hq : ¬ q = 3) : s'.1 75 q = s.1 75 q := h.2.2.2 75 q (fun z => hq z.2) (fun z => by omega) (fun z => by omega) (fun z => by omega)
theorem CFe_84 (h : CFe P t k s s') {q : Nat} (hP : P = 3 ∨ P = 39) (hq : ¬ q = 5) : s'.1 84 q = s.1 84 q := h.2.2.2 84 q (fun z => by omega) (fun z => by omega) (fun z => hq z.2) (fun z => by omega)
/-- the tables stay -/
theorem CSz_e (hP : P = 3 ∨ P = 39) (hT : 18 ≤ t) (hk : k0 ≤ k) (h : CFe P t k u w) (C : CSz K L W ar kd TN Ls n k0 P u) : CSz K L W ar kd TN Ls n k0 P w := by
  have r : ∀ r : Nat, (r < 18 ∨ (20 < r ∧ r < 34)) → w.2 (P + r) = u.2 (P + r) := fun r h1 => CFe_r h h1 hP
  obtain ⟨⟨⟨d1, d2, d3, d4⟩, d5, d6, d7⟩, c2, c3, c4, ⟨c5, c5'⟩, c6, c7, c8⟩ := C
  have et : ∀ i c, tyc w P i c = tyc u P i c := fun i c => by
    unfold tyc
    rw [r 24 (by decide)]
  have eg : ∀ i c, sgc w P i c = sgc u P i c := fun i c => by
    unfold sgc
    rw [r 28 (by decide)]
  have ef : ∀ i c, fnc w P i c = fnc u P i c := fun i c => by
    unfold fnc
    rw [r 26 (by decide)]
  have es : ∀ i c, slc w P i c = slc u P i c := fun i c => by
    unfold slc
    rw [r 30 (by decide)]
  have ed : ∀ i c, dcl w P i c = dcl u P i c := fun i c => by
    unfold dcl
    rw [r 32 (by decide)]
  have ez : ∀ b : Nat, ¬ b = P + 34 → zsz w b = zsz u b := fun b hb => by
    unfold zsz
    rw [CFe_z h hP hb]
  refine ⟨⟨⟨by rw [r 4 (by decide)]; exact d1, by rw [r 6 (by decide)]; exact d2, by rw [r 10 (by decide)]; exact d3, by rw [r 22 (by decide)]; exact d4⟩, ?_, ?_, KDz_r (r 24 (by decide)) d7⟩, fun i hi => ?_, FNi_r (r 24 (by decide)) (r 26 (by decide)) c3, fun i q hq => ?_, ⟨fun i q v hi h1 h2 => ?_, c5'⟩, fun i t h1 => ⟨⟨fun h6 => ?_, fun h6 => ?_⟩, fun j q h2 => ?_⟩, by rw [ez _ (by omega), ez _ (by omega), ez _ (by omega)]; exact c7, c8⟩
  · unfold SMz okT eqT zpl zln at *
    rw [r 2 (by decide), r 6 (by decide), r 8 (by decide)]
    exact d5
  · unfold TNz at d6 ⊢
    rw [ez _ (by omega)]
    refine ⟨d6.1, d6.2.1, fun i v hv => ?_⟩
    rw [et]
    exact d6.2.2 i v hv
  · rw [← c2 i hi, KI_n, KI_n, h.2.1 i (Or.inl (by omega))]
  · rw [es, es, es, es]
    exact c4 i q hq
  · rw [es]
    obtain ⟨w1, w2⟩ := c5 i q v hi h1 h2
    refine ⟨w1, fun h0 => ?_⟩
    obtain ⟨v1, v2, v3, v4⟩ := w2 h0
    exact ⟨v1, v2, CFe_wd h (by omega) (Or.inr ⟨v1, by rw [List.length_map]; omega⟩) v3, CFe_tt h v1 (by rw [List.length_map]; omega) v4⟩
  · rw [ed, ed, ed, ef, ef, ef, ef, ef, ef, ef]
    exact (c6 i t h1).1.1 h6
  · rw [ed, ed, ed, et, et, et, et]
    exact (c6 i t h1).1.2 h6
  · obtain ⟨j0, g1, g2⟩ := (c6 i t h1).2 j q h2
    refine ⟨j0, ?_, g2⟩
    rw [eg, eg, eg, eg, eg]
    exact g1
theorem CIn_e (hP : P = 3 ∨ P = 39) (hT0 : 18 ≤ T0) (hT : T0 ≤ t) (hk : k0 ≤ k) (h : CFe P t k u w) (I : CIn K L W ar kd TN Ls n k0 S P lo hi T0 u) : CIn K L W ar kd TN Ls n k0 S P lo hi T0 w := by
  obtain ⟨i1, i2, i3, i4, i5⟩ := I
  have r : ∀ r : Nat, (r < 18 ∨ (20 < r ∧ r < 34)) → w.2 (P + r) = u.2 (P + r) := fun r h1 => CFe_r h h1 hP
  have e4 : w.1 75 4 = u.1 75 4 := CFe_75 h hP (by decide)
  have e5 : w.1 75 5 = u.1 75 5 := CFe_75 h hP (by decide)
  have e6 : w.1 75 6 = u.1 75 6 := CFe_75 h hP (by decide)
  refine ⟨CSz_e hP (by omega) hk h i1, ?_, ?_, ?_, ?_⟩
  · unfold SCz sgc slc at *
    rw [r 22 (by decide), r 28 (by decide), r 30 (by decide), e4, e5, e6]
    exact i2
  · intro q h1 h2
    rw [r 12 (by decide)]
    exact i3 q h1 h2
  · unfold CSc at *
    rw [e4, e6]
    exact i4
  · have k0' : k0 ≤ k := hk
    rcases i5 with ⟨z1, z2⟩ | ⟨v0, vs, A0, As, b0, y1, y2, y3, y4, y5, y6, y7, y8, y9, y10, y11, y12, y13, y14, y15⟩
    · refine Or.inl ⟨?_, z2⟩
      rw [CFe_84 h hP (by decide)]
      exact z1
    · refine Or.inr ⟨v0, vs, A0, As, b0, y1, y2, y3, y4, ?_, ?_, ?_, y8, CFe_wd h (by decide) (Or.inl (by omega)) y9, ?_, ?_, ?_, y13, ?_, ?_⟩
      · rw [CFe_84 h hP (by decide)]
        exact y5
      · unfold fnc at *
        rw [r 26 (by decide), CFe_84 h hP (by decide)]
        exact y6
      · rw [CFe_84 h hP (by decide)]
        exact y7
      · rw [e6]
        exact y10
      · unfold sgc at *
        rw [r 28 (by decide), e6]
        exact y11
      · unfold sgc at *
        rw [r 28 (by decide), e6]
        exact y12
      · intro i v hv
        unfold slc at *
        rw [r 30 (by decide)]
        exact y14 i v hv
      · intro i A hA
        obtain ⟨q1, q2, q3⟩ := y15 i A hA
        have es : slc w P (b0 + (i : Int)) 3 = slc u P (b0 + (i : Int)) 3 := by
          unfold slc
          rw [r 30 (by decide)]
        rw [es]
        exact ⟨q1, q2, CFe_wd h (by omega) (Or.inr ⟨q1, by omega⟩) q3⟩
/-- BOUNDS of the PARAMS in a TYPE -/
theorem CI_sp {lo' hi' : Int} (h : PRm K L W ar kd n lo' hi' TN Ls) (I : CIn K L W ar kd TN Ls n k0 S P lo hi T0 u) (hA : cdW (S.2.1.length : Int) (S.1.length : Int) A) : SPz ar P u S.2.2.1 A := by
  obtain ⟨i1, -, -, ⟨c, sg, j1, j2, j3, j4, j5, j6⟩, -⟩ := I
  rw [j6]
  refine cz_sp (nY := (S.1.length : Int)) h i1 j1 j2 (by rw [j3]; exact hA) (fun ⟨a, ha, h1, h2⟩ => j4 (fun z => ?_)) ?_
  · have := (hA a ha).2.2.1 h1 h2
    rw [z] at this
    simp only [List.length_nil] at this
    omega
  · rcases j5 with z | ⟨g, g1, g2, g3⟩
    · rw [z]
      exact Or.inl (Int.le_refl _)
    · exact Or.inr ⟨g, g1, g2, by rw [g3]⟩
end ZZST
