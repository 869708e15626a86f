/-! ===== the class: Stock with all that its Rows hold: how it stands; find, copy, countAll ===== -/
/-- a TYPE: words that close, not too many -/
def TQi (ar : Int → Int) (A : List Int) : Prop := isR ar 1 A ∧ A.length ≤ 60 ∧ ∀ c ∈ A, 0 ≤ c ∧ c < 36
/-- a TYPE that was made, at x, ahead of nx -/
def MDt (ar : Int → Int) (P : Nat) (s : zS) (nx x : Int) (A : List Int) : Prop := TQi ar A ∧ (9618 ≤ x ∧ x + (A.length : Int) ≤ nx) ∧ WDz P s x A
/-- the TYPES made -/
def IRt (ar : Int → Int) (P : Nat) (s : zS) (nx : Int) (ts : List (List Int)) : Prop := (s.1 198 2).toInt = (ts.length : Int) ∧ ∀ (j : Nat) (A : List Int), ts[j]? = some A → MDt ar P s nx (KI (s.2 198) (j : Int)) A
/-- one of CALLS, of METHODS: the TYPE, the METHOD or the func, the TYPES told -/
abbrev Cal : Type := List Int × Int × List (List Int)
/-- TYPES told, in Row e from b on: places of TYPES that were made -/
def TLc (s : zS) (ts : List (List Int)) (e : Nat) (b : Int) (Ts : List (List Int)) : Prop := (KI (s.2 e) (b + 2) = (Ts.length : Int) ∧ Ts.length ≤ 6) ∧ (∀ (i : Nat) (A : List Int), Ts[i]? = some A → ∃ j : Nat, ts[j]? = some A ∧ KI (s.2 e) (b + 3 + (i : Int)) = KI (s.2 198) (j : Int)) ∧ ∀ i : Nat, Ts.length ≤ i → i < 6 → KI (s.2 e) (b + 3 + (i : Int)) = 0
/-- one of CALLS, of METHODS, at b -/
def CAc (ar : Int → Int) (P : Nat) (s : zS) (nx : Int) (ts : List (List Int)) (e : Nat) (b : Int) (X : Cal) : Prop := MDt ar P s nx (KI (s.2 e) b) X.1 ∧ KI (s.2 e) (b + 1) = X.2.1 ∧ TLc s ts e b X.2.2
def IRc (ar : Int → Int) (P : Nat) (s : zS) (nx : Int) (ts : List (List Int)) (cs : List Cal) : Prop := (s.1 200 2).toInt = 10 * (cs.length : Int) ∧ ∀ (c : Nat) (X : Cal), cs[c]? = some X → CAc ar P s nx ts 200 (10 * (c : Int)) X ∧ 0 ≤ KI (s.2 200) (10 * (c : Int) + 9)
def IRm (ar : Int → Int) (P : Nat) (s : zS) (nx : Int) (ts : List (List Int)) (ms : List Cal) : Prop := (s.1 202 2).toInt = 9 * (ms.length : Int) ∧ ∀ (m : Nat) (X : Cal), ms[m]? = some X → CAc ar P s nx ts 202 (9 * (m : Int)) X ∧ -1 ≤ X.2.1 ∧ 10 * X.2.1 < (s.1 (P + 26) 2).toInt
/-- Stock: its TYPES, CALLS and METHODS -/
def IRz (ar : Int → Int) (P : Nat) (s : zS) (nx : Int) (ts : List (List Int)) (cs ms : List Cal) : Prop := ((s.1 197 7).toInt = nx ∧ 9618 ≤ nx ∧ nx ≤ 9618 + 60 * ((ts.length : Int) + (cs.length : Int))) ∧ IRt ar P s nx ts ∧ IRc ar P s nx ts cs ∧ IRm ar P s nx ts ms
/-- as items -/
def it0 (A : List Int) : Mit := (0, A, 0, [])
def itc (X : Cal) : Mit := (1, X.1, X.2.1, X.2.2)
def itm (X : Cal) : Mit := (2, X.1, X.2.1, X.2.2)
def DrL (Dr : Mit → Prop) (ts : List (List Int)) (cs ms : List Cal) : Prop := (∀ A ∈ ts, Dr (it0 A)) ∧ (∀ X ∈ cs, Dr (itc X)) ∧ ∀ X ∈ ms, Dr (itm X)
/-- with a TYPE what stands within it -/
def SBc (ar : Int → Int) (ts : List (List Int)) : Prop := ∀ A ∈ ts, ∀ i : Nat, i < A.length → subT ar A i ∈ ts
/-- what it holds; Dr: what may be made; Bd: they can't be made -/
def HLd (Dr : Mit → Prop) (Bd : Prop) (ar : Int → Int) (fl : Int) (ts : List (List Int)) (cs ms : List Cal) : Prop := (ts.Nodup ∧ cs.Nodup ∧ ms.Nodup) ∧ DrL Dr ts cs ms ∧ (fl = 0 → SBc ar ts) ∧ (¬ fl = 0 → Bd ∨ 151 ≤ ts.length + cs.length + ms.length)
/-- the TYPES that a CALL was held against: the first dn -/
def DNc (An : List Int → Cal → List Cal → Prop) (s : zS) (ts : List (List Int)) (cs ms : List Cal) : Prop := ∀ (c : Nat) (X : Cal), cs[c]? = some X → ∃ dn : Nat, KI (s.2 200) (10 * (c : Int) + 9) = (dn : Int) ∧ dn ≤ ts.length ∧ ∀ (t : Nat) (A : List Int), t < dn → ts[t]? = some A → An A X ms
/-- what is true of them stays with more METHODS -/
def AnM (An : List Int → Cal → List Cal → Prop) : Prop := ∀ (A : List Int) (X : Cal) (ms vs : List Cal), An A X ms → An A X (ms ++ vs)
/-- it stands so -/
def IOd (Dr : Mit → Prop) (Bd : Prop) (An : List Int → Cal → List Cal → Prop) (ar : Int → Int) (P : Nat) (s : zS) (ts : List (List Int)) (cs ms : List Cal) : Prop := ((s.1 75 3).toInt = 18 ∧ ∃ nx : Int, (ts.length + cs.length + ms.length ≤ 151 ∧ ((s.1 197 10).toInt = 0 → ts.length + cs.length + ms.length ≤ 150)) ∧ IRz ar P s nx ts cs ms) ∧ HLd Dr Bd ar (s.1 197 10).toInt ts cs ms ∧ ((s.1 197 10).toInt = 0 → DNc An s ts cs ms)
/-- what is put for PARAMS -/
def EQe (ar : Int → Int) (P : Nat) (η : Nat → List Int) (s : zS) : Prop := ENzu (s.1 197 7).toInt P s 76 18 η 12 ∧ ∀ p, p < 12 → TQi ar (η p)
/-- words that stay -/
def WFz (P : Nat) (s s' : zS) : Prop := (∀ j : Nat, ((j : Int) < 18 ∨ (138 ≤ (j : Int) ∧ (j : Int) < (s.1 197 7).toInt) ∨ 18738 ≤ (j : Int)) → s'.2 (P + 18) j = s.2 (P + 18) j) ∧ (s.1 197 7).toInt ≤ (s'.1 197 7).toInt
/-- what adding TYPES may write -/
def AFz (P : Nat) (s s' : zS) : Prop := (∀ r, ¬ r = P + 18 → ¬ r = 198 → s'.2 r = s.2 r) ∧ WFz P s s' ∧ ∀ c q, ¬ (c = 197 ∧ (q = 7 ∨ q = 10)) → ¬ (c = 198 ∧ q = 2) → s'.1 c q = s.1 c q
/-- what Stock may write -/
def IFz (P : Nat) (s s' : zS) : Prop := (∀ r, ¬ r = P + 18 → ¬ r = 78 → ¬ r = 80 → ¬ r = 198 → ¬ r = 200 → ¬ r = 202 → ¬ r = 204 → s'.2 r = s.2 r) ∧ WFz P s s' ∧ ∀ c q, ¬ (c = 197 ∧ (q = 7 ∨ q = 10)) → ¬ (c = 198 ∧ q = 2) → ¬ (c = 200 ∧ q = 2) → ¬ (c = 202 ∧ q = 2) → s'.1 c q = s.1 c q
section ZVA
variable {ar : Int → Int} {P d e : Nat} {s s' u w : zS} {nx nx' x b : Int} {A B : List Int} {ts ws Ts : List (List Int)} {cs ms : List Cal} {ca me : Nat} {a1 a2 : Int32} {η : Nat → List Int} {X : Cal}
theorem WFz_rf : WFz P s s := ⟨fun _ _ => rfl, Int.le_refl _⟩
theorem WFz_tr (h : WFz P s u) (g : WFz P u w) : WFz P s w := by
  have h2 := h.2
  have g2 := g.2
  exact ⟨fun j hj => (g.1 j (by omega)).trans (h.1 j hj), by omega⟩
theorem AFz_rf : AFz P s s := ⟨fun _ _ _ => rfl, WFz_rf, fun _ _ _ _ => rfl⟩
theorem AFz_tr (h : AFz P s u) (g : AFz P u w) : AFz P s w := ⟨fun r a1 a2 => (g.1 r a1 a2).trans (h.1 r a1 a2), WFz_tr h.2.1 g.2.1, fun c q a1 a2 => (g.2.2 c q a1 a2).trans (h.2.2 c q a1 a2)⟩
theorem IFz_rf : IFz P s s := ⟨fun _ _ _ _ _ _ _ _ => rfl, WFz_rf, fun _ _ _ _ _ _ => rfl⟩
theorem IFz_tr (h : IFz P s u) (g : IFz P u w) : IFz P s w := ⟨fun r a1 a2 a3 a4 a5 a6 a7 => (g.1 r a1 a2 a3 a4 a5 a6 a7).trans (h.1 r a1 a2 a3 a4 a5 a6 a7), WFz_tr h.2.1 g.2.1, fun c q a1 a2 a3 a4 => (g.2.2 c q a1 a2 a3 a4).trans (h.2.2 c q a1 a2 a3 a4)⟩
theorem AFz_i (h : AFz P s s') : IFz P s s' := ⟨fun r a1 _ _ a4 _ _ _ => h.1 r a1 a4, h.2.1, fun c q a1 a2 _ _ => h.2.2 c q a1 a2⟩
theorem MDt_f (h : ∀ j : Nat, 9618 ≤ (j : Int) → (j : Int) < nx → s'.2 (P + 18) j = s.2 (P + 18) j) (hn : nx ≤ nx') (g : MDt ar P s nx x A) : MDt ar P s' nx' x A := by
  obtain ⟨g1, ⟨g2, g3⟩, g4⟩ := g
  refine ⟨g1, ⟨g2, by omega⟩, fun i c hc => ?_⟩
  have hi := (List.getElem?_eq_some_iff.mp hc).1
  rw [← g4 i c hc, KI_p (by omega), KI_p (by omega), h _ (by omega) (by omega)]
/-- told TYPES stay told -/
theorem TLc_f (hb : 0 ≤ b) (hr : ∀ j : Nat, b ≤ (j : Int) → (j : Int) < b + 9 → s'.2 e j = s.2 e j) (h8 : ∀ j : Nat, j < ts.length → s'.2 198 j = s.2 198 j) (g : TLc s ts e b Ts) : TLc s' (ts ++ ws) e b Ts := by
  have er : ∀ i : Int, 0 ≤ i → i < 9 → KI (s'.2 e) (b + i) = KI (s.2 e) (b + i) := fun i i0 i1 => by rw [KI_p (by omega), KI_p (by omega), hr _ (by omega) (by omega)]
  obtain ⟨⟨g1, g2⟩, g3, g4⟩ := g
  refine ⟨⟨by rw [er 2 (by decide) (by decide)]; exact g1, g2⟩, fun i A hi => ?_, fun i i0 i1 => ?_⟩
  · have hil := (List.getElem?_eq_some_iff.mp hi).1
    obtain ⟨j, j1, j2⟩ := g3 i A hi
    have hj := (List.getElem?_eq_some_iff.mp j1).1
    have e3 := er (3 + (i : Int)) (by omega) (by omega)
    rw [← Int.add_assoc] at e3
    refine ⟨j, by rw [List.getElem?_append_left hj]; exact j1, ?_⟩
    rw [e3, j2, KI_n, KI_n, h8 j hj]
  · have e3 := er (3 + (i : Int)) (by omega) (by omega)
    rw [← Int.add_assoc] at e3
    rw [e3]
    exact g4 i i0 i1
theorem CAc_f (h : ∀ j : Nat, 9618 ≤ (j : Int) → (j : Int) < nx → s'.2 (P + 18) j = s.2 (P + 18) j) (hn : nx ≤ nx') (hb : 0 ≤ b) (hr : ∀ j : Nat, b ≤ (j : Int) → (j : Int) < b + 9 → s'.2 e j = s.2 e j) (h8 : ∀ j : Nat, j < ts.length → s'.2 198 j = s.2 198 j) (g : CAc ar P s nx ts e b X) : CAc ar P s' nx' (ts ++ ws) e b X := by
  have er : ∀ i : Int, 0 ≤ i → i < 9 → KI (s'.2 e) (b + i) = KI (s.2 e) (b + i) := fun i i0 i1 => by rw [KI_p (by omega), KI_p (by omega), hr _ (by omega) (by omega)]
  have e0 := er 0 (by decide) (by decide)
  rw [Int.add_zero] at e0
  obtain ⟨g1, g2, g3⟩ := g
  exact ⟨by rw [e0]; exact MDt_f h hn g1, by rw [er 1 (by decide) (by decide)]; exact g2, TLc_f hb hr h8 g3⟩
theorem IRc_f (h : ∀ j : Nat, 9618 ≤ (j : Int) → (j : Int) < nx → s'.2 (P + 18) j = s.2 (P + 18) j) (hn : nx ≤ nx') (h1 : s'.1 200 2 = s.1 200 2) (hr : s'.2 200 = s.2 200) (h8 : ∀ j : Nat, j < ts.length → s'.2 198 j = s.2 198 j) (g : IRc ar P s nx ts cs) : IRc ar P s' nx' (ts ++ ws) cs := ⟨by rw [h1]; exact g.1, fun c X hc => ⟨CAc_f h hn (by omega) (fun j _ _ => by rw [hr]) h8 (g.2 c X hc).1, by rw [hr]; exact (g.2 c X hc).2⟩⟩
theorem IRm_f (h : ∀ j : Nat, 9618 ≤ (j : Int) → (j : Int) < nx → s'.2 (P + 18) j = s.2 (P + 18) j) (hn : nx ≤ nx') (h1 : s'.1 202 2 = s.1 202 2) (hr : s'.2 202 = s.2 202) (h8 : ∀ j : Nat, j < ts.length → s'.2 198 j = s.2 198 j) (hF : s'.1 (P + 26) 2 = s.1 (P + 26) 2) (g : IRm ar P s nx ts ms) : IRm ar P s' nx' (ts ++ ws) ms := ⟨by rw [h1]; exact g.1, fun c X hc => ⟨CAc_f h hn (by omega) (fun j _ _ => by rw [hr]) h8 (g.2 c X hc).1, by rw [hF]; exact (g.2 c X hc).2⟩⟩
theorem IRt_f (h : ∀ j : Nat, 9618 ≤ (j : Int) → (j : Int) < nx → s'.2 (P + 18) j = s.2 (P + 18) j) (hn : nx ≤ nx') (h1 : s'.1 198 2 = s.1 198 2) (hr : s'.2 198 = s.2 198) (g : IRt ar P s nx ts) : IRt ar P s' nx' ts := ⟨by rw [h1]; exact g.1, fun j A hj => by rw [hr]; exact MDt_f h hn (g.2 j A hj)⟩
/-- Stock stands where its own Rows and the made words stay -/
theorem IRz_f (h : ∀ j : Nat, 9618 ≤ (j : Int) → (j : Int) < nx → s'.2 (P + 18) j = s.2 (P + 18) j) (h7 : s'.1 197 7 = s.1 197 7) (h1 : s'.1 198 2 = s.1 198 2 ∧ s'.1 200 2 = s.1 200 2 ∧ s'.1 202 2 = s.1 202 2 ∧ s'.1 (P + 26) 2 = s.1 (P + 26) 2) (hr : s'.2 198 = s.2 198 ∧ s'.2 200 = s.2 200 ∧ s'.2 202 = s.2 202) (g : IRz ar P s nx ts cs ms) : IRz ar P s' nx ts cs ms := by
  have g3 := IRc_f (ws := []) h (Int.le_refl _) h1.2.1 hr.2.1 (fun j _ => by rw [hr.1]) g.2.2.1
  have g4 := IRm_f (ws := []) h (Int.le_refl _) h1.2.2.1 hr.2.2 (fun j _ => by rw [hr.1]) h1.2.2.2 g.2.2.2
  rw [List.append_nil] at g3 g4
  exact ⟨by rw [h7]; exact g.1, IRt_f h (Int.le_refl _) h1.1 hr.1 g.2.1, g3, g4⟩
theorem EQe_f (h : WFz P s s') (hr : s'.2 76 = s.2 76) (g : EQe ar P η s) : EQe ar P η s' := by
  obtain ⟨g1, g2⟩ := g
  have h2 := h.2
  refine ⟨fun p hp => ?_, g2⟩
  obtain ⟨x, k1, k2, ⟨k3, k4, k5, k6⟩, k7⟩ := g1 p hp
  refine ⟨x, by rw [hr]; exact k1, by rw [hr]; exact k2, ⟨k3, k4, ?_, k6⟩, fun i c hc => ?_⟩
  · rcases k5 with q | q
    · exact Or.inl q
    · exact Or.inr ⟨q.1, by omega⟩
  · have hi := (List.getElem?_eq_some_iff.mp hc).1
    rw [← k7 i c hc, KI_p (by omega), KI_p (by omega), h.1 _ ?_]
    rcases k5 with q | q
    · exact Or.inl (by omega)
    · exact Or.inr (Or.inl (by omega))
/-- words of a TYPE that stay -/
theorem WFz_wd (h : WFz P s s') (h0 : 0 ≤ x) (hx : x + (A.length : Int) ≤ 18 ∨ (138 ≤ x ∧ x + (A.length : Int) ≤ (s.1 197 7).toInt) ∨ 18738 ≤ x) (g : WDz P s x A) : WDz P s' x A := fun i c hc => by
  have hi := (List.getElem?_eq_some_iff.mp hc).1
  rw [← g i c hc, KI_p (by omega), KI_p (by omega), h.1 _ (by omega)]
theorem za_c (h : (s.1 e 2).toInt < (lim e : Int)) {v : Int32} {r j : Nat} : (za s e v).2 r j = if r = e ∧ j = (s.1 e 2).toInt.toNat then v else s.2 r j := by
  rw [za_in h, zf_2, zr_2]
theorem DNc_t {An : List Int → Cal → List Cal → Prop} (hr : s'.2 200 = s.2 200) (g : DNc An s ts cs ms) : DNc An s' (ts ++ ws) cs ms := fun c X hX => by
  obtain ⟨dn, g1, g2, g3⟩ := g c X hX
  refine ⟨dn, by rw [hr]; exact g1, by rw [List.length_append]; omega, fun t A ht hA => g3 t A ht ?_⟩
  rw [List.getElem?_append_left (by omega)] at hA
  exact hA
theorem DNc_m {An : List Int → Cal → List Cal → Prop} {vs : List Cal} (hM : AnM An) (hr : s'.2 200 = s.2 200) (g : DNc An s ts cs ms) : DNc An s' ts cs (ms ++ vs) := fun c X hX => by
  obtain ⟨dn, g1, g2, g3⟩ := g c X hX
  exact ⟨dn, by rw [hr]; exact g1, g2, fun t A ht hA => hM A X ms vs (g3 t A ht hA)⟩
theorem DNc_s {An : List Int → Cal → List Cal → Prop} (hr : s'.2 200 = s.2 200) (g : DNc An s ts cs ms) : DNc An s' ts cs ms := fun c X hX => by
  obtain ⟨dn, g1, g2, g3⟩ := g c X hX
  exact ⟨dn, by rw [hr]; exact g1, g2, g3⟩
/-- one CALL more, held against none -/
theorem DNc_c {An : List Int → Cal → List Cal → Prop} {Y : Cal} (hr : ∀ c : Nat, c < cs.length → KI (s'.2 200) (10 * (c : Int) + 9) = KI (s.2 200) (10 * (c : Int) + 9)) (h0 : KI (s'.2 200) (10 * (cs.length : Int) + 9) = 0) (g : DNc An s ts cs ms) : DNc An s' ts (cs ++ [Y]) ms := fun c X hX => by
  have hl := (List.getElem?_eq_some_iff.mp hX).1
  rw [List.length_append, List.length_singleton] at hl
  by_cases e : c = cs.length
  · exact ⟨0, by rw [e]; exact h0, Nat.zero_le _, fun t A ht _ => absurd ht (Nat.not_lt_zero _)⟩
  · rw [List.getElem?_append_left (by omega)] at hX
    obtain ⟨dn, g1, g2, g3⟩ := g c X hX
    exact ⟨dn, by rw [hr c (by omega)]; exact g1, g2, g3⟩
/-- find -/
theorem zi_98 (hP : P = 3 ∨ P = 39) (hA : KI (s.2 (P + 22)) = ar) (h6 : ∀ c, 0 ≤ ar c ∧ ar c ≤ 7) (hT : IRt ar P s nx ts) (hn : nx ≤ 18738) (hl : ts.length ≤ 151) (hq : TQi ar A) (h1 : 0 ≤ a1.toInt ∧ a1.toInt ≤ 100000) (hw : WDz P s a1.toInt A) : Zt (d + 18) (wd2 P 98) 98 [.ref 197, .int a1] s (fun v s' => s' = s ∧ ∃ r : Int32, v = some (.int r) ∧ ((r.toInt = -1 ∧ ¬ A ∈ ts) ∨ ∃ j : Nat, ts[j]? = some A ∧ r.toInt = KI (s.2 198) (j : Int))) := by
  refine zc_98 (d := d + 9) hP ?_
  unfold v_98_0
  refine ⟨fun c1 c2 u => c1 = a1 ∧ u = s ∧ ∃ i : Nat, c2.toInt = (i : Int) ∧ i ≤ ts.length ∧ ∀ j, j < i → ¬ ts[j]? = some A, fun _ c2 _ => ((ts.length : Int) - c2.toInt).toNat, ⟨rfl, rfl, 0, by decide, Nat.zero_le _, fun j hj => absurd hj (Nat.not_lt_zero _)⟩, ?_⟩
  rintro c1 c2 u ⟨e1, e2, i, i1, i2, i3⟩
  subst e1 e2
  have hz := hT.1
  unfold v_98_2
  refine ⟨fun y => ⟨rfl, -1, rfl, Or.inl ⟨by decide, fun hm => ?_⟩⟩, fun y => ?_⟩
  · obtain ⟨j, hj⟩ := List.getElem?_of_mem hm
    have := (List.getElem?_eq_some_iff.mp hj).1
    exact i3 j (by omega) hj
  · obtain ⟨B, hB⟩ : ∃ B, ts[i]? = some B := ⟨_, List.getElem?_eq_getElem (by omega)⟩
    obtain ⟨b1, b2, b3⟩ := hT.2 i B hB
    have hbl := b1.2.1
    have ez : (zg u 198 c2).toInt = KI (u.2 198) (i : Int) := by rw [zg_K, i1]
    refine Zt.imp (Zt.mo (d := 9) (by omega) (zs_84 (d := 0) (A := A) (B := B) hP hA h6 hq.1 b1.1 hq.2.1 h1 (by rw [ez]; omega) hw (by rw [ez]; exact b3))) ?_
    rintro v1 s2 ⟨hs2, x3, rfl, hr⟩
    subst hs2
    refine ⟨x3, rfl, fun x0 x4 hx4 => ?_, fun x0 => ?_⟩
    · have ex4 := hx4 (by omega)
      have hne : ¬ A = B := by
        rcases hr with q | q
        · omega
        · exact q.2
      refine ⟨⟨rfl, rfl, i + 1, by omega, by omega, fun j hj hjA => ?_⟩, by dsimp only; omega⟩
      by_cases e : j = i
      · rw [e, hB] at hjA
        exact hne (Option.some.inj hjA).symm
      · exact i3 j (by omega) hjA
    · have he : A = B := by
        rcases hr with q | q
        · exact q.2
        · exact absurd q.1 x0
      exact ⟨rfl, _, rfl, Or.inr ⟨i, by rw [hB, he], ez⟩⟩
/-- copy -/
theorem zi_107 (hP : P = 3 ∨ P = 39) (h7 : (s.1 197 7).toInt = nx) (hx : 138 ≤ nx ∧ nx ≤ 80000) (h2 : a2.toInt = (A.length : Int)) (hl : A.length ≤ 60) (h1 : 0 ≤ a1.toInt ∧ a1.toInt ≤ 100000) (hdj : a1.toInt + (A.length : Int) ≤ nx ∨ nx + (A.length : Int) ≤ a1.toInt) (hw : WDz P s a1.toInt A) : Zt (d + 9) (wd2 P 107) 107 [.ref 197, .int a1, .int a2] s (fun v s' => (∀ r, ¬ r = P + 18 → s'.2 r = s.2 r) ∧ (∀ b q, ¬ (b = 197 ∧ q = 7) → s'.1 b q = s.1 b q) ∧ (s'.1 197 7).toInt = nx + (A.length : Int) ∧ (∀ j : Nat, ((j : Int) < nx ∨ nx + (A.length : Int) ≤ (j : Int)) → s'.2 (P + 18) j = s.2 (P + 18) j) ∧ ∃ r : Int32, v = some (.int r) ∧ r.toInt = nx ∧ WDz P s' nx A) := by
  have hlim : lim (P + 18) = 82938 := by rcases hP with rfl | rfl <;> decide +kernel
  refine zc_107 hP ?_
  unfold v_107_0
  refine ⟨fun c1 c2 c3 c4 u => c1 = a1 ∧ c2 = a2 ∧ c3 = s.1 197 7 ∧ u.1 = s.1 ∧ (∀ r, ¬ r = P + 18 → u.2 r = s.2 r) ∧ ∃ i : Nat, c4.toInt = (i : Int) ∧ i ≤ A.length ∧ (∀ j : Nat, ((j : Int) < nx ∨ nx + (i : Int) ≤ (j : Int)) → u.2 (P + 18) j = s.2 (P + 18) j) ∧ WDz P u nx (A.take i), fun _ _ _ c4 _ => (a2.toInt - c4.toInt).toNat, ⟨rfl, rfl, rfl, rfl, fun _ _ => rfl, 0, by decide, Nat.zero_le _, fun _ _ => rfl, (fun i c hc => by cases hc)⟩, ?_⟩
  rintro c1 c2 c3 c4 u ⟨e1, e2, e3, i3, i4, i, k1, k2, k3, k4⟩
  subst e1 e2
  have h3 : c3.toInt = nx := by
    rw [e3]
    exact h7
  unfold v_107_5
  refine ⟨fun y x1 hx1 s2 hs2 => ?_, fun y x3 hx3 x4 hx4 => ?_⟩
  · have ex := hx1 (by omega)
    have ei : i = A.length := by omega
    rw [ei, List.take_length] at k4
    rw [ei] at k3
    refine ⟨fun r hr => by rw [hs2, zf_2]; exact i4 r hr, fun b q hb => by rw [hs2, zf_1, if_neg hb, i3], ?_, fun j hj => by rw [hs2, zf_2]; exact k3 j hj, c3, rfl, h3, fun j c hc => by rw [hs2, zf_2]; exact k4 j c hc⟩
    rw [hs2, zf_1, if_pos ⟨rfl, rfl⟩]
    omega
  · have ex := hx3 (by omega)
    have ex4 := hx4 (by omega)
    refine ⟨Or.inr (by omega), fun s5 hs5 x6 hx6 => ?_⟩
    have e6 := hx6 (by omega)
    have hi : i < A.length := by omega
    obtain ⟨c, hc⟩ : ∃ c, A[i]? = some c := ⟨_, List.getElem?_eq_getElem hi⟩
    have vz : (zg u (P + 18) x4).toInt = c := by
      rw [zg_K, ← hw i c hc, KI_p (by omega), KI_p (by omega), show c1.toInt + (i : Int) = x4.toInt by omega, k3 _ (by omega)]
    have r5 : ∀ r j, s5.2 r j = if r = P + 18 ∧ j = x3.toInt.toNat then zg u (P + 18) x4 else u.2 r j := fun r j => by
      rw [hs5, zt_in (by rw [hlim]; omega), zr_2]
    refine ⟨⟨rfl, rfl, e3, by rw [hs5, zt_1]; exact i3, fun r hr => by rw [hs5, zt_o hr]; exact i4 r hr, i + 1, by omega, by omega, fun j hj => ?_, fun j c' hj => ?_⟩, by dsimp only; omega⟩
    · rw [r5, if_neg (fun q => by omega), k3 j (by omega)]
    · have hjl := (List.getElem?_eq_some_iff.mp hj).1
      rw [List.length_take] at hjl
      rw [KI_p (by omega), r5]
      by_cases ej : j = i
      · rw [if_pos ⟨rfl, by omega⟩, vz]
        rw [ej, List.getElem?_take_of_lt (by omega), hc] at hj
        exact Option.some.inj hj
      · rw [if_neg (fun q => by omega), ← KI_p (by omega)]
        refine k4 j c' ?_
        rw [List.getElem?_take_of_lt (by omega)] at hj ⊢
        exact hj
/-- countAll -/
theorem zi_104 (hP : P = 3 ∨ P = 39) {ty : Nat} (h1 : (s.1 198 2).toInt = (ty : Int)) (h2 : (s.1 200 2).toInt = 10 * (ca : Int)) (h3 : (s.1 202 2).toInt = 9 * (me : Int)) : Zt (d + 18) (wd2 P 104) 104 [.ref 197] s (fun v s' => v = none ∧ s'.2 = s.2 ∧ (∀ b q, ¬ (b = 197 ∧ q = 10) → s'.1 b q = s.1 b q) ∧ ((s'.1 197 10).toInt = 0 → (s.1 197 10).toInt = 0 ∧ ty + ca + me ≤ 150) ∧ ((s.1 197 10).toInt = 0 → ¬ (s'.1 197 10).toInt = 0 → 151 ≤ ty + ca + me)) := by
  refine Zt_bd (fun hB => zc_104 (d := d + 9) hP ?_)
  have h198 := hB.2 198 2 0 151 (by decide +kernel) (by decide +kernel)
  have h200 := hB.2 200 2 0 1510 (by decide +kernel) (by decide +kernel)
  have h202 := hB.2 202 2 0 1359 (by decide +kernel) (by decide +kernel)
  have f15 : ((s.1 197 10).toInt = 0 → 151 ≤ ty + ca + me) → v_104_15 (fun j => Zt (d + 9 + 8) (wd2 P j) j) P s (fun v s' => v = none ∧ s'.2 = s.2 ∧ (∀ b q, ¬ (b = 197 ∧ q = 10) → s'.1 b q = s.1 b q) ∧ ((s'.1 197 10).toInt = 0 → (s.1 197 10).toInt = 0 ∧ ty + ca + me ≤ 150) ∧ ((s.1 197 10).toInt = 0 → ¬ (s'.1 197 10).toInt = 0 → 151 ≤ ty + ca + me)) := fun hb => by
    unfold v_104_15 v_104_18
    refine ⟨by decide, fun s1 hs1 => ⟨rfl, by rw [hs1, zf_2], fun b q hb => by rw [hs1, zf_1, if_neg hb], fun z => ?_, fun w _ => hb w⟩⟩
    rw [hs1, zf_1, if_pos ⟨rfl, rfl⟩] at z
    exact absurd z (by decide)
  unfold v_104_0
  refine ⟨fun z => f15 (fun w => absurd w z), fun z => ?_⟩
  refine Zt.imp (Zt.mo (d := 9) (by omega) (zw_95 (d := 0) hP)) ?_
  rintro v1 s2 ⟨hs2, x3, rfl, q3⟩
  subst hs2
  refine ⟨x3, rfl, fun x4 hx4 => ?_⟩
  refine Zt.imp (Zt.mo (d := 9) (by omega) (zw_96 (d := 0) hP)) ?_
  rintro v5 s6 ⟨hs6, x7, rfl, q7⟩
  subst hs6
  have e3 := q3 h200.1
  have e7 := q7 h202.1
  have e4 := hx4 (by omega)
  refine ⟨x7, rfl, fun x8 hx8 => ⟨fun y => ?_, fun y => f15 (fun _ => ?_)⟩⟩
  rotate_left
  · have e8 := hx8 (by omega)
    omega
  have e8 := hx8 (by omega)
  unfold v_104_18
  refine ⟨by decide, fun s1 hs1 => ⟨rfl, by rw [hs1, zf_2], fun b q hb => by rw [hs1, zf_1, if_neg hb], fun _ => ⟨z, by omega⟩, fun _ w => ?_⟩⟩
  rw [hs1, zf_1, if_pos ⟨rfl, rfl⟩] at w
  exact absurd (by decide) w
end ZVA
