/-! ===== the class: fill ===== -/
/-- what is put for PARAM p: of the type or func the TYPES X, of the HEAD the TYPES Y -/
def eta (X Y : List (List Int)) (p : Nat) : List Int := if p < 6 then (if p < X.length then X.getD p [] else [24 + (p : Int)]) else (if p - 6 < Y.length then Y.getD (p - 6) [] else [24 + (p : Int)])
/-- n words from x on lie ahead of t or among the kept ones -/
def APt (t x : Int) (n : Nat) : Prop := x + (n : Int) ≤ t ∨ 18738 ≤ x
theorem APt_in {t x y : Int} {n m : Nat} (h : APt t x n) (h1 : x ≤ y) (h2 : y + (m : Int) ≤ x + (n : Int)) : APt t y m := by
  rcases h with w1 | w1
  · exact Or.inl (by omega)
  · exact Or.inr (by omega)
/-- Row e holds where these stand -/
def ENz (P : Nat) (s : zS) (e : Nat) (t : Int) (η : Nat → List Int) (m : Nat) : Prop := ∀ p : Nat, p < m → ∃ x : Int, KI (s.2 e) (p : Int) = x ∧ KI (s.2 e) (12 + (p : Int)) = x + ((η p).length : Int) ∧ (0 ≤ x ∧ x ≤ 90000 ∧ APt t x (η p).length ∧ (η p).length ≤ 400) ∧ WDz P s x (η p)
/-- each PARAM by itself -/
def SGz (P : Nat) (s : zS) : Prop := ∀ i : Nat, i < 18 → KI (s.2 (P + 18)) (i : Int) = 24 + (i : Int)
section YFL
variable {ar : Int → Int} {P d e : Nat} {s s' : zS} {a2 a3 a4 : Int32} {A : List Int} {X Y : List (List Int)} {t : Int}
theorem WDz_fl : ∀ (Z : List (List Int)) (i : Nat) (y : List Int) (x : Int), WDz P s x Z.flatten → Z[i]? = some y → WDz P s (x + ((Z.take i).flatten.length : Int)) y
  | [], i, y, x, _, h => by cases h
  | z :: Z, 0, y, x, g, h => by
    have e1 : z = y := by simpa using h
    rw [List.take_zero]
    show WDz P s (x + ((0 : Nat) : Int)) y
    rw [show x + ((0 : Nat) : Int) = x by omega]
    intro j c hc
    refine g j c ?_
    show (z ++ Z.flatten)[j]? = some c
    rw [e1, List.getElem?_append_left (List.getElem?_eq_some_iff.mp hc).1]
    exact hc
  | z :: Z, i + 1, y, x, g, h => by
    have g2 : WDz P s (x + (z.length : Int)) Z.flatten := by
      intro j c hc
      have := g (z.length + j) c (by
        show (z ++ Z.flatten)[z.length + j]? = some c
        rw [app_at rfl]
        exact hc)
      rw [show x + ((z.length + j : Nat) : Int) = x + (z.length : Int) + (j : Int) by omega] at this
      exact this
    have := WDz_fl Z i y _ g2 h
    have e2 : x + (z.length : Int) + ((Z.take i).flatten.length : Int) = x + (((z :: Z).take (i + 1)).flatten.length : Int) := by
      rw [List.take_succ_cons, List.flatten_cons, List.length_append]
      omega
    rw [e2] at this
    exact this
theorem fl_take {Z : List (List Int)} {i : Nat} {y : List Int} (h : Z[i]? = some y) : ((Z.take (i + 1)).flatten.length : Int) = ((Z.take i).flatten.length : Int) + (y.length : Int) := by
  have e1 : Z.take (i + 1) = Z.take i ++ [y] := by
    rw [List.take_succ, h]
    rfl
  rw [e1, List.flatten_append, List.length_append]
  show (((Z.take i).flatten.length + (y ++ []).length : Nat) : Int) = _
  rw [List.append_nil]
  omega
theorem fl_le : ∀ (Z : List (List Int)) (i : Nat), (Z.take i).flatten.length ≤ Z.flatten.length
  | [], i => by rw [List.take_nil]; exact Nat.le_refl _
  | z :: Z, 0 => Nat.zero_le _
  | z :: Z, i + 1 => by
    rw [List.take_succ_cons, List.flatten_cons, List.flatten_cons, List.length_append, List.length_append]
    have := fl_le Z i
    omega
theorem WDz_r {x : Int} (h : s'.2 (P + 18) = s.2 (P + 18)) (g : WDz P s x A) : WDz P s' x A := fun i c hc => by
  rw [h]
  exact g i c hc
set_option maxHeartbeats 2000000 in
/-- fill: X stand behind type a2, Y from a3 on -/
theorem zs_86g (hP : P = 3 ∨ P = 39) (he : skE e = true) (hA : KI (s.2 (P + 22)) = ar) (h6 : ∀ c, 0 ≤ ar c ∧ ar c ≤ 7) (h24 : ∀ c, 24 ≤ c → ar c = 0) (hS : SGz P s) (h2 : 0 ≤ a2.toInt ∧ a2.toInt ≤ 83000) (h3 : Y ≠ [] → 0 ≤ a3.toInt ∧ a3.toInt ≤ 83000) (hX : ar (KI (s.2 (P + 18)) a2.toInt) = (X.length : Int)) (hXr : ∀ x ∈ X, isR ar 1 x) (hXw : WDz P s (a2.toInt + 1) X.flatten) (hXl : X.flatten.length ≤ 60 ∧ X.length ≤ 7) (hY : a4.toInt = (Y.length : Int)) (hYr : ∀ x ∈ Y, isR ar 1 x) (hYw : WDz P s a3.toInt Y.flatten) (hYl : Y.flatten.length ≤ 400 ∧ Y.length ≤ 6) (ht : 18 ≤ t) (hXt : APt t (a2.toInt + 1) X.flatten.length) (hYt : Y ≠ [] → APt t a3.toInt Y.flatten.length) : Zt (d + 10) (wd P 86) 86 [.ref 75, .ref e, .int a2, .int a3, .int a4] s (fun v s' => v = none ∧ s'.1 = s.1 ∧ (∀ r, ¬ r = e → s'.2 r = s.2 r) ∧ ENz P s' e t (eta X Y) 12) := by
  have hle : lim e = 24 := ev_l he
  have heP : ¬ P + 18 = e ∧ ¬ P + 22 = e := ⟨fun w => (ev_P hP he).1 w.symm, fun w => (ev_P hP he).2.1 w.symm⟩
  refine zc_86 (d := d + 1) hP he ?_
  unfold v_86_0
  intro x1 hx1
  have ex1 := hx1 (by omega)
  have en0 : (zg s (P + 22) (zg s (P + 18) a2)).toInt = (X.length : Int) := by
    rw [zg_K, hA, zg_K]
    exact hX
  refine ⟨fun c2 c3 c4 c5 c6 c7 u => c2 = a2 ∧ c3 = a3 ∧ c4 = a4 ∧ u.1 = s.1 ∧ (∀ r, ¬ r = e → u.2 r = s.2 r) ∧ ∃ i : Nat, i ≤ 12 ∧ c7.toInt = (i : Int) ∧ ENz P u e t (eta X Y) i ∧ (i ≤ 6 → c5.toInt = (X.length : Int) ∧ (i ≤ X.length → c6.toInt = a2.toInt + 1 + ((X.take i).flatten.length : Int))) ∧ (6 < i → c5.toInt = 6 + (Y.length : Int) ∧ (i - 6 ≤ Y.length → c6.toInt = a3.toInt + ((Y.take (i - 6)).flatten.length : Int))), fun _ _ _ _ _ c7 _ => (12 - c7.toInt).toNat, ⟨rfl, rfl, rfl, rfl, fun _ _ => rfl, 0, by decide, by decide, fun p hp => absurd hp (Nat.not_lt_zero _), fun _ => ⟨en0, fun _ => ?_⟩, fun h => absurd h (by decide)⟩, ?_⟩
  · rw [ex1, List.take_zero]
    show a2.toInt + 1 = a2.toInt + 1 + ((0 : Nat) : Int)
    omega
  rintro c2 c3 c4 c5 c6 c7 u ⟨e1, e2, e3, g1, g2, i, g3, g4, g5, g6, g7⟩
  subst e1 e2 e3
  -- one PARAM: cnt, at0 as they then stand
  have body : ∀ (cnt at0 : Int32), i < 12 → ((i : Int) < cnt.toInt → isR ar 1 (eta X Y i) ∧ WDz P s at0.toInt (eta X Y i) ∧ (0 ≤ at0.toInt ∧ at0.toInt ≤ 90000 ∧ APt t at0.toInt (eta X Y i).length) ∧ (eta X Y i).length ≤ 400) → (¬ (i : Int) < cnt.toInt → eta X Y i = [24 + (i : Int)]) → (∀ c6' : Int32, ((i : Int) < cnt.toInt → c6'.toInt = at0.toInt + ((eta X Y i).length : Int)) → (i + 1 ≤ 6 → cnt.toInt = (X.length : Int) ∧ (i + 1 ≤ X.length → c6'.toInt = c2.toInt + 1 + ((X.take (i + 1)).flatten.length : Int))) ∧ (6 < i + 1 → cnt.toInt = 6 + (Y.length : Int) ∧ (i + 1 - 6 ≤ Y.length → c6'.toInt = c3.toInt + ((Y.take (i + 1 - 6)).flatten.length : Int)))) → v_86_26 (fun j => Zt (d + 1 + 8) (wd P j) j) P e (fun c2' c3' c4' c5' c6' c7' u' => (c2' = c2 ∧ c3' = c3 ∧ c4' = c4 ∧ u'.1 = s.1 ∧ (∀ r, ¬ r = e → u'.2 r = s.2 r) ∧ ∃ i : Nat, i ≤ 12 ∧ c7'.toInt = (i : Int) ∧ ENz P u' e t (eta X Y) i ∧ (i ≤ 6 → c5'.toInt = (X.length : Int) ∧ (i ≤ X.length → c6'.toInt = c2.toInt + 1 + ((X.take i).flatten.length : Int))) ∧ (6 < i → c5'.toInt = 6 + (Y.length : Int) ∧ (i - 6 ≤ Y.length → c6'.toInt = c3.toInt + ((Y.take (i - 6)).flatten.length : Int)))) ∧ (12 - c7'.toInt).toNat < (12 - c7.toInt).toNat) c2 c3 c4 cnt at0 c7 u (fun v s' => v = none ∧ s'.1 = s.1 ∧ (∀ r, ¬ r = e → s'.2 r = s.2 r) ∧ ENz P s' e t (eta X Y) 12) := by
    intro cnt at0 hi12 b1 b2 b3
    have r18 : u.2 (P + 18) = s.2 (P + 18) := g2 _ heP.1
    have r22 : KI (u.2 (P + 22)) = ar := by rw [g2 _ heP.2]; exact hA
    -- from f0, which is where eta i stands
    have one : ∀ f0 : Int32, isR ar 1 (eta X Y i) → WDz P s f0.toInt (eta X Y i) → (0 ≤ f0.toInt ∧ f0.toInt ≤ 90000 ∧ APt t f0.toInt (eta X Y i).length) → (eta X Y i).length ≤ 400 → ((i : Int) < cnt.toInt → f0 = at0) → v_86_32 (fun j => Zt (d + 1 + 8) (wd P j) j) P e (fun c2' c3' c4' c5' c6' c7' u' => (c2' = c2 ∧ c3' = c3 ∧ c4' = c4 ∧ u'.1 = s.1 ∧ (∀ r, ¬ r = e → u'.2 r = s.2 r) ∧ ∃ i : Nat, i ≤ 12 ∧ c7'.toInt = (i : Int) ∧ ENz P u' e t (eta X Y) i ∧ (i ≤ 6 → c5'.toInt = (X.length : Int) ∧ (i ≤ X.length → c6'.toInt = c2.toInt + 1 + ((X.take i).flatten.length : Int))) ∧ (6 < i → c5'.toInt = 6 + (Y.length : Int) ∧ (i - 6 ≤ Y.length → c6'.toInt = c3.toInt + ((Y.take (i - 6)).flatten.length : Int)))) ∧ (12 - c7'.toInt).toNat < (12 - c7.toInt).toNat) c2 c3 c4 cnt at0 c7 f0 u (fun v s' => v = none ∧ s'.1 = s.1 ∧ (∀ r, ¬ r = e → s'.2 r = s.2 r) ∧ ENz P s' e t (eta X Y) 12) := by
      intro f0 k1 k2 k3 k4 k5
      unfold v_86_32
      refine Zt.imp (Zt.mo (d := 9) (by omega) (zs_83 (d := 0) (A := eta X Y i) hP r22 h6 k1 (by omega) (by omega) (WDz_r r18 k2))) ?_
      rintro v1 s2 ⟨hs2, x3, rfl, hx3⟩
      refine ⟨x3, rfl, by omega, fun s4 hs4 x5 hx5 => ⟨by omega, fun s6 hs6 => ?_⟩⟩
      have ex5 := hx5 (by omega)
      rw [hs2] at hs4
      have z4 : s4 = zr u e i f0 := by rw [hs4, zt_in (by rw [hle]; omega), g4, Int.toNat_natCast]
      have z6 : s6 = zr s4 e (12 + i) x3 := by rw [hs6, zt_in (by rw [hle]; omega), ex5, g4, show (12 + (i : Int)).toNat = 12 + i by omega]
      have f1 : s6.1 = s.1 := by rw [z6, zr_1, z4, zr_1]; exact g1
      have f2 : ∀ r, ¬ r = e → s6.2 r = s.2 r := fun r hr => by
        rw [← g2 r hr]
        funext j
        rw [z6, zr_2, if_neg (fun q => hr q.1), z4, zr_2, if_neg (fun q => hr q.1)]
      have cel : ∀ j : Nat, s6.2 e j = if j = 12 + i then x3 else if j = i then f0 else u.2 e j := fun j => by
        rw [z6, zr_2]
        by_cases q1 : j = 12 + i
        · rw [if_pos ⟨rfl, q1⟩, if_pos q1]
        · rw [if_neg (fun q => q1 q.2), if_neg q1, z4, zr_2]
          by_cases q2 : j = i
          · rw [if_pos ⟨rfl, q2⟩, if_pos q2]
          · rw [if_neg (fun q => q2 q.2), if_neg q2]
      have EN : ENz P s6 e t (eta X Y) (i + 1) := fun p hp => by
        by_cases ep : p = i
        · refine ⟨f0.toInt, ?_, ?_, by rw [ep]; exact ⟨k3.1, k3.2.1, k3.2.2, k4⟩, ?_⟩
          · rw [ep, KI_n, cel, if_neg (by omega), if_pos rfl]
          · rw [ep, show 12 + (i : Int) = ((12 + i : Nat) : Int) by omega, KI_n, cel, if_pos rfl]
            exact hx3
          · rw [ep]
            exact WDz_r (f2 _ heP.1) k2
        · obtain ⟨x, m1, m2, m3, m4⟩ := g5 p (by omega)
          refine ⟨x, ?_, ?_, m3, WDz_r (by rw [f2 _ heP.1, r18]) m4⟩
          · rw [KI_n, cel, if_neg (by omega), if_neg ep, ← KI_n]
            exact m1
          · rw [show 12 + (p : Int) = ((12 + p : Nat) : Int) by omega] at m2 ⊢
            rw [KI_n, cel, if_neg (by omega), if_neg (by omega), ← KI_n]
            exact m2
      have nxt : ∀ (q8 q9 c6' : Int32), ((i : Int) < cnt.toInt → c6'.toInt = at0.toInt + ((eta X Y i).length : Int)) → v_86_53 (fun j => Zt (d + 1 + 8) (wd P j) j) P e (fun c2' c3' c4' c5' c6' c7' u' => (c2' = c2 ∧ c3' = c3 ∧ c4' = c4 ∧ u'.1 = s.1 ∧ (∀ r, ¬ r = e → u'.2 r = s.2 r) ∧ ∃ i : Nat, i ≤ 12 ∧ c7'.toInt = (i : Int) ∧ ENz P u' e t (eta X Y) i ∧ (i ≤ 6 → c5'.toInt = (X.length : Int) ∧ (i ≤ X.length → c6'.toInt = c2.toInt + 1 + ((X.take i).flatten.length : Int))) ∧ (6 < i → c5'.toInt = 6 + (Y.length : Int) ∧ (i - 6 ≤ Y.length → c6'.toInt = c3.toInt + ((Y.take (i - 6)).flatten.length : Int)))) ∧ (12 - c7'.toInt).toNat < (12 - c7.toInt).toNat) c2 c3 c4 cnt at0 c7 q8 q9 c6' s6 (fun v s' => v = none ∧ s'.1 = s.1 ∧ (∀ r, ¬ r = e → s'.2 r = s.2 r) ∧ ENz P s' e t (eta X Y) 12) := by
        intro q8 q9 c6' hc6
        unfold v_86_53
        intro x7 hx7
        have ex7 := hx7 (by omega)
        obtain ⟨b4, b5⟩ := b3 c6' hc6
        exact ⟨⟨rfl, rfl, rfl, f1, f2, i + 1, by omega, by omega, EN, b4, b5⟩, by omega⟩
      refine ⟨fun y => nxt _ _ _ (fun h => absurd h (by omega)), fun y => nxt _ _ _ (fun h => ?_)⟩
      rw [hx3, k5 h]
    unfold v_86_26
    refine ⟨fun y => ?_, fun y => ?_⟩
    · have e0 := b2 (by omega)
      refine one c7 ?_ ?_ ⟨by omega, by omega, by rw [e0]; exact Or.inl (show c7.toInt + ((1 : Nat) : Int) ≤ t by omega)⟩ (by rw [e0]; show 1 ≤ 400; decide) (fun h => absurd h (by omega))
      · rw [e0]
        exact ⟨by decide, (h6 _).1, by show (1 : Int) + ar (24 + (i : Int)) - 1 = 0; rw [h24 _ (by omega)]; decide⟩
      · rw [e0, g4]
        intro j c hc
        cases j with
        | zero =>
          have ec : 24 + (i : Int) = c := by simpa using hc
          rw [← ec, show (i : Int) + ((0 : Nat) : Int) = (i : Int) by omega]
          exact hS i (by omega)
        | succ j => cases hc
    · obtain ⟨k1, k2, k3, k4⟩ := b1 (by omega)
      exact one at0 k1 k2 k3 k4 (fun _ => rfl)
  unfold v_86_14
  refine ⟨fun y => ⟨rfl, g1, g2, ?_⟩, fun y => ⟨fun y1 => ?_, fun y1 x1' hx1' => ?_⟩⟩
  · have : i = 12 := by omega
    rw [← this]
    exact g5
  · -- not the sixth
    rcases Nat.lt_or_ge i 6 with hi | hi
    · obtain ⟨p1, p2⟩ := g6 (by omega)
      refine body c5 c6 (by omega) (fun h => ?_) (fun h => ?_) (fun c6' hc6 => ⟨fun _ => ⟨p1, fun hle' => ?_⟩, fun h => by omega⟩)
      · have hil : i < X.length := by omega
        obtain ⟨z, hz⟩ : ∃ z, X[i]? = some z := ⟨_, List.getElem?_eq_getElem hil⟩
        have ez : eta X Y i = z := by
          unfold eta
          rw [if_pos hi, if_pos hil, List.getD_eq_getElem?_getD, hz]
          rfl
        have ep := p2 (by omega)
        have hl := fl_le X i
        have hl2 := fl_le X (i + 1)
        have hl3 := fl_take hz
        rw [ez, ep]
        exact ⟨hXr z (List.mem_of_getElem? hz), WDz_fl X i z _ hXw hz, ⟨by omega, by omega, APt_in hXt (by omega) (by omega)⟩, by omega⟩
      · unfold eta
        rw [if_pos hi, if_neg (by omega)]
      · have hil : i < X.length := by omega
        obtain ⟨z, hz⟩ : ∃ z, X[i]? = some z := ⟨_, List.getElem?_eq_getElem hil⟩
        have ez : eta X Y i = z := by
          unfold eta
          rw [if_pos hi, if_pos hil, List.getD_eq_getElem?_getD, hz]
          rfl
        rw [hc6 (by omega), ez, p2 (by omega), fl_take hz]
        omega
    · obtain ⟨p1, p2⟩ := g7 (by omega)
      refine body c5 c6 (by omega) (fun h => ?_) (fun h => ?_) (fun c6' hc6 => ⟨fun h => by omega, fun _ => ⟨p1, fun hle' => ?_⟩⟩)
      · have hil : i - 6 < Y.length := by omega
        obtain ⟨z, hz⟩ : ∃ z, Y[i - 6]? = some z := ⟨_, List.getElem?_eq_getElem hil⟩
        have ez : eta X Y i = z := by
          unfold eta
          rw [if_neg (by omega), if_pos hil, List.getD_eq_getElem?_getD, hz]
          rfl
        have ep := p2 (by omega)
        have hl := fl_le Y (i - 6)
        have hl2 := fl_le Y (i - 6 + 1)
        have hl3 := fl_take hz
        have h3' := h3 (fun q => by rw [q] at hil; exact absurd hil (Nat.not_lt_zero _))
        have h3t := hYt (fun q => by rw [q] at hil; exact absurd hil (Nat.not_lt_zero _))
        rw [ez, ep]
        exact ⟨hYr z (List.mem_of_getElem? hz), WDz_fl Y (i - 6) z _ hYw hz, ⟨by omega, by omega, APt_in h3t (by omega) (by omega)⟩, by omega⟩
      · unfold eta
        rw [if_neg (by omega), if_neg (by omega)]
      · have hil : i - 6 < Y.length := by omega
        obtain ⟨z, hz⟩ : ∃ z, Y[i - 6]? = some z := ⟨_, List.getElem?_eq_getElem hil⟩
        have ez : eta X Y i = z := by
          unfold eta
          rw [if_neg (by omega), if_pos hil, List.getD_eq_getElem?_getD, hz]
          rfl
        rw [hc6 (by omega), ez, p2 (by omega), show i + 1 - 6 = i - 6 + 1 by omega, fl_take hz]
        omega
  · have hi : i = 6 := by omega
    have ex1' := hx1' (by omega)
    refine body x1' c3 (by omega) (fun h => ?_) (fun h => ?_) (fun c6' hc6 => ⟨fun h => by omega, fun _ => ⟨by omega, fun hle' => ?_⟩⟩)
    · have hil : 0 < Y.length := by omega
      obtain ⟨z, hz⟩ : ∃ z, Y[0]? = some z := ⟨_, List.getElem?_eq_getElem hil⟩
      have ez : eta X Y i = z := by
        unfold eta
        rw [hi, if_neg (by omega), if_pos (by omega), List.getD_eq_getElem?_getD, show 6 - 6 = 0 by omega, hz]
        rfl
      have hl2 := fl_le Y 1
      have hl3 : ((Y.take 1).flatten.length : Int) = ((Y.take 0).flatten.length : Int) + (z.length : Int) := fl_take hz
      have h3' := h3 (fun q => by rw [q] at hil; exact absurd hil (Nat.not_lt_zero _))
      have h3t := hYt (fun q => by rw [q] at hil; exact absurd hil (Nat.not_lt_zero _))
      have hw := WDz_fl Y 0 z _ hYw hz
      rw [List.take_zero, show c3.toInt + ((([] : List (List Int)).flatten.length : Nat) : Int) = c3.toInt by show c3.toInt + ((0 : Nat) : Int) = _; omega] at hw
      rw [ez]
      rw [List.take_zero] at hl3
      have : (([] : List (List Int)).flatten.length : Int) = 0 := rfl
      exact ⟨hYr z (List.mem_of_getElem? hz), hw, ⟨by omega, by omega, APt_in h3t (by omega) (by omega)⟩, by omega⟩
    · unfold eta
      rw [hi, if_neg (by omega), if_neg (by omega)]
    · have hil : 0 < Y.length := by omega
      obtain ⟨z, hz⟩ : ∃ z, Y[0]? = some z := ⟨_, List.getElem?_eq_getElem hil⟩
      have ez : eta X Y i = z := by
        unfold eta
        rw [hi, if_neg (by omega), if_pos (by omega), List.getD_eq_getElem?_getD, show 6 - 6 = 0 by omega, hz]
        rfl
      rw [hc6 (by omega), ez, hi, show 6 + 1 - 6 = 0 + 1 by omega, fl_take hz, List.take_zero]
      show c3.toInt + (z.length : Int) = c3.toInt + (((0 : Nat) : Int) + (z.length : Int))
      omega
theorem zs_86 (hP : P = 3 ∨ P = 39) (he : e = 76 ∨ e = 78 ∨ e = 80) (hA : KI (s.2 (P + 22)) = ar) (h6 : ∀ c, 0 ≤ ar c ∧ ar c ≤ 7) (h24 : ∀ c, 24 ≤ c → ar c = 0) (hS : SGz P s) (h2 : 0 ≤ a2.toInt ∧ a2.toInt ≤ 83000) (h3 : Y ≠ [] → 0 ≤ a3.toInt ∧ a3.toInt ≤ 83000) (hX : ar (KI (s.2 (P + 18)) a2.toInt) = (X.length : Int)) (hXr : ∀ x ∈ X, isR ar 1 x) (hXw : WDz P s (a2.toInt + 1) X.flatten) (hXl : X.flatten.length ≤ 60 ∧ X.length ≤ 7) (hY : a4.toInt = (Y.length : Int)) (hYr : ∀ x ∈ Y, isR ar 1 x) (hYw : WDz P s a3.toInt Y.flatten) (hYl : Y.flatten.length ≤ 400 ∧ Y.length ≤ 6) (ht : 18 ≤ t) (hXt : APt t (a2.toInt + 1) X.flatten.length) (hYt : Y ≠ [] → APt t a3.toInt Y.flatten.length) : Zt (d + 10) (wd P 86) 86 [.ref 75, .ref e, .int a2, .int a3, .int a4] s (fun v s' => v = none ∧ s'.1 = s.1 ∧ (∀ r, ¬ r = e → s'.2 r = s.2 r) ∧ ENz P s' e t (eta X Y) 12) := zs_86g hP (ev_3 he) hA h6 h24 hS h2 h3 hX hXr hXw hXl hY hYr hYw hYl ht hXt hYt
end YFL
