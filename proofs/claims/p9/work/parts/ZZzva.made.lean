/-! ===== the class: fill, put, alike, meets, where TYPES lie among those that were made (wip/p5/mkq.py out of Y1-Y3, Y5, Y6: only words in [18, 138) are written) ===== -/
section QY1
def APtq (t x : Int) (n : Nat) : Prop := x + (n : Int) ≤ t ∨ 138 ≤ x
theorem APt_inq {t x y : Int} {n m : Nat} (h : APtq t x n) (h1 : x ≤ y) (h2 : y + (m : Int) ≤ x + (n : Int)) : APtq t y m := by
  rcases h with w1 | w1
  · exact Or.inl (by omega)
  · exact Or.inr (by omega)
def ENzq (P : Nat) (s : zS) (e : Nat) (t : Int) (η : Nat → List Int) (m : Nat) : Prop := ∀ p : Nat, p < m → ∃ x : Int, KI (s.2 e) (p : Int) = x ∧ KI (s.2 e) (12 + (p : Int)) = x + ((η p).length : Int) ∧ (0 ≤ x ∧ x ≤ 90000 ∧ APtq t x (η p).length ∧ (η p).length ≤ 400) ∧ WDz P s x (η p)
variable {ar : Int → Int} {P d e : Nat} {s s' : zS} {a2 a3 a4 : Int32} {A : List Int} {X Y : List (List Int)} {t : Int}
set_option maxHeartbeats 2000000 in
theorem zs_86gq (hP : P = 3 ∨ P = 39) (he : skE e = true) (hA : KI (s.2 (P + 22)) = ar) (h6 : ∀ c, 0 ≤ ar c ∧ ar c ≤ 7) (h24 : ∀ c, 24 ≤ c → ar c = 0) (hS : SGz P s) (h2 : 0 ≤ a2.toInt ∧ a2.toInt ≤ 83000) (h3 : Y ≠ [] → 0 ≤ a3.toInt ∧ a3.toInt ≤ 83000) (hX : ar (KI (s.2 (P + 18)) a2.toInt) = (X.length : Int)) (hXr : ∀ x ∈ X, isR ar 1 x) (hXw : WDz P s (a2.toInt + 1) X.flatten) (hXl : X.flatten.length ≤ 60 ∧ X.length ≤ 7) (hY : a4.toInt = (Y.length : Int)) (hYr : ∀ x ∈ Y, isR ar 1 x) (hYw : WDz P s a3.toInt Y.flatten) (hYl : Y.flatten.length ≤ 400 ∧ Y.length ≤ 6) (ht : 18 ≤ t) (hXt : APtq t (a2.toInt + 1) X.flatten.length) (hYt : Y ≠ [] → APtq t a3.toInt Y.flatten.length) : Zt (d + 10) (wd P 86) 86 [.ref 75, .ref e, .int a2, .int a3, .int a4] s (fun v s' => v = none ∧ s'.1 = s.1 ∧ (∀ r, ¬ r = e → s'.2 r = s.2 r) ∧ ENzq P s' e t (eta X Y) 12) := by
  have hle : lim e = 24 := ev_l he
  have heP : ¬ P + 18 = e ∧ ¬ P + 22 = e := ⟨fun w => (ev_P hP he).1 w.symm, fun w => (ev_P hP he).2.1 w.symm⟩
  refine zc_86 (d := d + 1) hP he ?_
  unfold v_86_0
  intro x1 hx1
  have ex1 := hx1 (by omega)
  have en0 : (zg s (P + 22) (zg s (P + 18) a2)).toInt = (X.length : Int) := by
    rw [zg_K, hA, zg_K]
    exact hX
  refine ⟨fun c2 c3 c4 c5 c6 c7 u => c2 = a2 ∧ c3 = a3 ∧ c4 = a4 ∧ u.1 = s.1 ∧ (∀ r, ¬ r = e → u.2 r = s.2 r) ∧ ∃ i : Nat, i ≤ 12 ∧ c7.toInt = (i : Int) ∧ ENzq P u e t (eta X Y) i ∧ (i ≤ 6 → c5.toInt = (X.length : Int) ∧ (i ≤ X.length → c6.toInt = a2.toInt + 1 + ((X.take i).flatten.length : Int))) ∧ (6 < i → c5.toInt = 6 + (Y.length : Int) ∧ (i - 6 ≤ Y.length → c6.toInt = a3.toInt + ((Y.take (i - 6)).flatten.length : Int))), fun _ _ _ _ _ c7 _ => (12 - c7.toInt).toNat, ⟨rfl, rfl, rfl, rfl, fun _ _ => rfl, 0, by decide, by decide, fun p hp => absurd hp (Nat.not_lt_zero _), fun _ => ⟨en0, fun _ => ?_⟩, fun h => absurd h (by decide)⟩, ?_⟩
  · rw [ex1, List.take_zero]
    show a2.toInt + 1 = a2.toInt + 1 + ((0 : Nat) : Int)
    omega
  rintro c2 c3 c4 c5 c6 c7 u ⟨e1, e2, e3, g1, g2, i, g3, g4, g5, g6, g7⟩
  subst e1 e2 e3
  -- one PARAM: cnt, at0 as they then stand
  have body : ∀ (cnt at0 : Int32), i < 12 → ((i : Int) < cnt.toInt → isR ar 1 (eta X Y i) ∧ WDz P s at0.toInt (eta X Y i) ∧ (0 ≤ at0.toInt ∧ at0.toInt ≤ 90000 ∧ APtq t at0.toInt (eta X Y i).length) ∧ (eta X Y i).length ≤ 400) → (¬ (i : Int) < cnt.toInt → eta X Y i = [24 + (i : Int)]) → (∀ c6' : Int32, ((i : Int) < cnt.toInt → c6'.toInt = at0.toInt + ((eta X Y i).length : Int)) → (i + 1 ≤ 6 → cnt.toInt = (X.length : Int) ∧ (i + 1 ≤ X.length → c6'.toInt = c2.toInt + 1 + ((X.take (i + 1)).flatten.length : Int))) ∧ (6 < i + 1 → cnt.toInt = 6 + (Y.length : Int) ∧ (i + 1 - 6 ≤ Y.length → c6'.toInt = c3.toInt + ((Y.take (i + 1 - 6)).flatten.length : Int)))) → v_86_26 (fun j => Zt (d + 1 + 8) (wd P j) j) P e (fun c2' c3' c4' c5' c6' c7' u' => (c2' = c2 ∧ c3' = c3 ∧ c4' = c4 ∧ u'.1 = s.1 ∧ (∀ r, ¬ r = e → u'.2 r = s.2 r) ∧ ∃ i : Nat, i ≤ 12 ∧ c7'.toInt = (i : Int) ∧ ENzq P u' e t (eta X Y) i ∧ (i ≤ 6 → c5'.toInt = (X.length : Int) ∧ (i ≤ X.length → c6'.toInt = c2.toInt + 1 + ((X.take i).flatten.length : Int))) ∧ (6 < i → c5'.toInt = 6 + (Y.length : Int) ∧ (i - 6 ≤ Y.length → c6'.toInt = c3.toInt + ((Y.take (i - 6)).flatten.length : Int)))) ∧ (12 - c7'.toInt).toNat < (12 - c7.toInt).toNat) c2 c3 c4 cnt at0 c7 u (fun v s' => v = none ∧ s'.1 = s.1 ∧ (∀ r, ¬ r = e → s'.2 r = s.2 r) ∧ ENzq P s' e t (eta X Y) 12) := by
    intro cnt at0 hi12 b1 b2 b3
    have r18 : u.2 (P + 18) = s.2 (P + 18) := g2 _ heP.1
    have r22 : KI (u.2 (P + 22)) = ar := by rw [g2 _ heP.2]; exact hA
    -- from f0, which is where eta i stands
    have one : ∀ f0 : Int32, isR ar 1 (eta X Y i) → WDz P s f0.toInt (eta X Y i) → (0 ≤ f0.toInt ∧ f0.toInt ≤ 90000 ∧ APtq t f0.toInt (eta X Y i).length) → (eta X Y i).length ≤ 400 → ((i : Int) < cnt.toInt → f0 = at0) → v_86_32 (fun j => Zt (d + 1 + 8) (wd P j) j) P e (fun c2' c3' c4' c5' c6' c7' u' => (c2' = c2 ∧ c3' = c3 ∧ c4' = c4 ∧ u'.1 = s.1 ∧ (∀ r, ¬ r = e → u'.2 r = s.2 r) ∧ ∃ i : Nat, i ≤ 12 ∧ c7'.toInt = (i : Int) ∧ ENzq P u' e t (eta X Y) i ∧ (i ≤ 6 → c5'.toInt = (X.length : Int) ∧ (i ≤ X.length → c6'.toInt = c2.toInt + 1 + ((X.take i).flatten.length : Int))) ∧ (6 < i → c5'.toInt = 6 + (Y.length : Int) ∧ (i - 6 ≤ Y.length → c6'.toInt = c3.toInt + ((Y.take (i - 6)).flatten.length : Int)))) ∧ (12 - c7'.toInt).toNat < (12 - c7.toInt).toNat) c2 c3 c4 cnt at0 c7 f0 u (fun v s' => v = none ∧ s'.1 = s.1 ∧ (∀ r, ¬ r = e → s'.2 r = s.2 r) ∧ ENzq P s' e t (eta X Y) 12) := by
      intro f0 k1 k2 k3 k4 k5
      unfold v_86_32
      refine Zt.imp (Zt.mo (d := 9) (by omega) (zs_83 (d := 0) (A := eta X Y i) hP r22 h6 k1 (by omega) (by omega) (WDz_r r18 k2))) ?_
      rintro v1 s2 ⟨hs2, x3, rfl, hx3⟩
      refine ⟨x3, rfl, by omega, fun s4 hs4 x5 hx5 => ⟨by omega, fun s6 hs6 => ?_⟩⟩
      have ex5 := hx5 (by omega)
      rw [hs2] at hs4
      have z4 : s4 = zr u e i f0 := by rw [hs4, zt_in (by rw [hle]; omega), g4, Int.toNat_natCast]
      have z6 : s6 = zr s4 e (12 + i) x3 := by rw [hs6, zt_in (by rw [hle]; omega), ex5, g4, show (12 + (i : Int)).toNat = 12 + i by omega]
      have f1 : s6.1 = s.1 := by rw [z6, zr_1, z4, zr_1]; exact g1
      have f2 : ∀ r, ¬ r = e → s6.2 r = s.2 r := fun r hr => by
        rw [← g2 r hr]
        funext j
        rw [z6, zr_2, if_neg (fun q => hr q.1), z4, zr_2, if_neg (fun q => hr q.1)]
      have cel : ∀ j : Nat, s6.2 e j = if j = 12 + i then x3 else if j = i then f0 else u.2 e j := fun j => by
        rw [z6, zr_2]
        by_cases q1 : j = 12 + i
        · rw [if_pos ⟨rfl, q1⟩, if_pos q1]
        · rw [if_neg (fun q => q1 q.2), if_neg q1, z4, zr_2]
          by_cases q2 : j = i
          · rw [if_pos ⟨rfl, q2⟩, if_pos q2]
          · rw [if_neg (fun q => q2 q.2), if_neg q2]
      have EN : ENzq P s6 e t (eta X Y) (i + 1) := fun p hp => by
        by_cases ep : p = i
        · refine ⟨f0.toInt, ?_, ?_, by rw [ep]; exact ⟨k3.1, k3.2.1, k3.2.2, k4⟩, ?_⟩
          · rw [ep, KI_n, cel, if_neg (by omega), if_pos rfl]
          · rw [ep, show 12 + (i : Int) = ((12 + i : Nat) : Int) by omega, KI_n, cel, if_pos rfl]
            exact hx3
          · rw [ep]
            exact WDz_r (f2 _ heP.1) k2
        · obtain ⟨x, m1, m2, m3, m4⟩ := g5 p (by omega)
          refine ⟨x, ?_, ?_, m3, WDz_r (by rw [f2 _ heP.1, r18]) m4⟩
          · rw [KI_n, cel, if_neg (by omega), if_neg ep, ← KI_n]
            exact m1
          · rw [show 12 + (p : Int) = ((12 + p : Nat) : Int) by omega] at m2 ⊢
            rw [KI_n, cel, if_neg (by omega), if_neg (by omega), ← KI_n]
            exact m2
      have nxt : ∀ (q8 q9 c6' : Int32), ((i : Int) < cnt.toInt → c6'.toInt = at0.toInt + ((eta X Y i).length : Int)) → v_86_53 (fun j => Zt (d + 1 + 8) (wd P j) j) P e (fun c2' c3' c4' c5' c6' c7' u' => (c2' = c2 ∧ c3' = c3 ∧ c4' = c4 ∧ u'.1 = s.1 ∧ (∀ r, ¬ r = e → u'.2 r = s.2 r) ∧ ∃ i : Nat, i ≤ 12 ∧ c7'.toInt = (i : Int) ∧ ENzq P u' e t (eta X Y) i ∧ (i ≤ 6 → c5'.toInt = (X.length : Int) ∧ (i ≤ X.length → c6'.toInt = c2.toInt + 1 + ((X.take i).flatten.length : Int))) ∧ (6 < i → c5'.toInt = 6 + (Y.length : Int) ∧ (i - 6 ≤ Y.length → c6'.toInt = c3.toInt + ((Y.take (i - 6)).flatten.length : Int)))) ∧ (12 - c7'.toInt).toNat < (12 - c7.toInt).toNat) c2 c3 c4 cnt at0 c7 q8 q9 c6' s6 (fun v s' => v = none ∧ s'.1 = s.1 ∧ (∀ r, ¬ r = e → s'.2 r = s.2 r) ∧ ENzq P s' e t (eta X Y) 12) := by
        intro q8 q9 c6' hc6
        unfold v_86_53
        intro x7 hx7
        have ex7 := hx7 (by omega)
        obtain ⟨b4, b5⟩ := b3 c6' hc6
        exact ⟨⟨rfl, rfl, rfl, f1, f2, i + 1, by omega, by omega, EN, b4, b5⟩, by omega⟩
      refine ⟨fun y => nxt _ _ _ (fun h => absurd h (by omega)), fun y => nxt _ _ _ (fun h => ?_)⟩
      rw [hx3, k5 h]
    unfold v_86_26
    refine ⟨fun y => ?_, fun y => ?_⟩
    · have e0 := b2 (by omega)
      refine one c7 ?_ ?_ ⟨by omega, by omega, by rw [e0]; exact Or.inl (show c7.toInt + ((1 : Nat) : Int) ≤ t by omega)⟩ (by rw [e0]; show 1 ≤ 400; decide) (fun h => absurd h (by omega))
      · rw [e0]
        exact ⟨by decide, (h6 _).1, by show (1 : Int) + ar (24 + (i : Int)) - 1 = 0; rw [h24 _ (by omega)]; decide⟩
      · rw [e0, g4]
        intro j c hc
        cases j with
        | zero =>
          have ec : 24 + (i : Int) = c := by simpa using hc
          rw [← ec, show (i : Int) + ((0 : Nat) : Int) = (i : Int) by omega]
          exact hS i (by omega)
        | succ j => cases hc
    · obtain ⟨k1, k2, k3, k4⟩ := b1 (by omega)
      exact one at0 k1 k2 k3 k4 (fun _ => rfl)
  unfold v_86_14
  refine ⟨fun y => ⟨rfl, g1, g2, ?_⟩, fun y => ⟨fun y1 => ?_, fun y1 x1' hx1' => ?_⟩⟩
  · have : i = 12 := by omega
    rw [← this]
    exact g5
  · -- not the sixth
    rcases Nat.lt_or_ge i 6 with hi | hi
    · obtain ⟨p1, p2⟩ := g6 (by omega)
      refine body c5 c6 (by omega) (fun h => ?_) (fun h => ?_) (fun c6' hc6 => ⟨fun _ => ⟨p1, fun hle' => ?_⟩, fun h => by omega⟩)
      · have hil : i < X.length := by omega
        obtain ⟨z, hz⟩ : ∃ z, X[i]? = some z := ⟨_, List.getElem?_eq_getElem hil⟩
        have ez : eta X Y i = z := by
          unfold eta
          rw [if_pos hi, if_pos hil, List.getD_eq_getElem?_getD, hz]
          rfl
        have ep := p2 (by omega)
        have hl := fl_le X i
        have hl2 := fl_le X (i + 1)
        have hl3 := fl_take hz
        rw [ez, ep]
        exact ⟨hXr z (List.mem_of_getElem? hz), WDz_fl X i z _ hXw hz, ⟨by omega, by omega, APt_inq hXt (by omega) (by omega)⟩, by omega⟩
      · unfold eta
        rw [if_pos hi, if_neg (by omega)]
      · have hil : i < X.length := by omega
        obtain ⟨z, hz⟩ : ∃ z, X[i]? = some z := ⟨_, List.getElem?_eq_getElem hil⟩
        have ez : eta X Y i = z := by
          unfold eta
          rw [if_pos hi, if_pos hil, List.getD_eq_getElem?_getD, hz]
          rfl
        rw [hc6 (by omega), ez, p2 (by omega), fl_take hz]
        omega
    · obtain ⟨p1, p2⟩ := g7 (by omega)
      refine body c5 c6 (by omega) (fun h => ?_) (fun h => ?_) (fun c6' hc6 => ⟨fun h => by omega, fun _ => ⟨p1, fun hle' => ?_⟩⟩)
      · have hil : i - 6 < Y.length := by omega
        obtain ⟨z, hz⟩ : ∃ z, Y[i - 6]? = some z := ⟨_, List.getElem?_eq_getElem hil⟩
        have ez : eta X Y i = z := by
          unfold eta
          rw [if_neg (by omega), if_pos hil, List.getD_eq_getElem?_getD, hz]
          rfl
        have ep := p2 (by omega)
        have hl := fl_le Y (i - 6)
        have hl2 := fl_le Y (i - 6 + 1)
        have hl3 := fl_take hz
        have h3' := h3 (fun q => by rw [q] at hil; exact absurd hil (Nat.not_lt_zero _))
        have h3t := hYt (fun q => by rw [q] at hil; exact absurd hil (Nat.not_lt_zero _))
        rw [ez, ep]
        exact ⟨hYr z (List.mem_of_getElem? hz), WDz_fl Y (i - 6) z _ hYw hz, ⟨by omega, by omega, APt_inq h3t (by omega) (by omega)⟩, by omega⟩
      · unfold eta
        rw [if_neg (by omega), if_neg (by omega)]
      · have hil : i - 6 < Y.length := by omega
        obtain ⟨z, hz⟩ : ∃ z, Y[i - 6]? = some z := ⟨_, List.getElem?_eq_getElem hil⟩
        have ez : eta X Y i = z := by
          unfold eta
          rw [if_neg (by omega), if_pos hil, List.getD_eq_getElem?_getD, hz]
          rfl
        rw [hc6 (by omega), ez, p2 (by omega), show i + 1 - 6 = i - 6 + 1 by omega, fl_take hz]
        omega
  · have hi : i = 6 := by omega
    have ex1' := hx1' (by omega)
    refine body x1' c3 (by omega) (fun h => ?_) (fun h => ?_) (fun c6' hc6 => ⟨fun h => by omega, fun _ => ⟨by omega, fun hle' => ?_⟩⟩)
    · have hil : 0 < Y.length := by omega
      obtain ⟨z, hz⟩ : ∃ z, Y[0]? = some z := ⟨_, List.getElem?_eq_getElem hil⟩
      have ez : eta X Y i = z := by
        unfold eta
        rw [hi, if_neg (by omega), if_pos (by omega), List.getD_eq_getElem?_getD, show 6 - 6 = 0 by omega, hz]
        rfl
      have hl2 := fl_le Y 1
      have hl3 : ((Y.take 1).flatten.length : Int) = ((Y.take 0).flatten.length : Int) + (z.length : Int) := fl_take hz
      have h3' := h3 (fun q => by rw [q] at hil; exact absurd hil (Nat.not_lt_zero _))
      have h3t := hYt (fun q => by rw [q] at hil; exact absurd hil (Nat.not_lt_zero _))
      have hw := WDz_fl Y 0 z _ hYw hz
      rw [List.take_zero, show c3.toInt + ((([] : List (List Int)).flatten.length : Nat) : Int) = c3.toInt by show c3.toInt + ((0 : Nat) : Int) = _; omega] at hw
      rw [ez]
      rw [List.take_zero] at hl3
      have : (([] : List (List Int)).flatten.length : Int) = 0 := rfl
      exact ⟨hYr z (List.mem_of_getElem? hz), hw, ⟨by omega, by omega, APt_inq h3t (by omega) (by omega)⟩, by omega⟩
    · unfold eta
      rw [hi, if_neg (by omega), if_neg (by omega)]
    · have hil : 0 < Y.length := by omega
      obtain ⟨z, hz⟩ : ∃ z, Y[0]? = some z := ⟨_, List.getElem?_eq_getElem hil⟩
      have ez : eta X Y i = z := by
        unfold eta
        rw [hi, if_neg (by omega), if_pos (by omega), List.getD_eq_getElem?_getD, show 6 - 6 = 0 by omega, hz]
        rfl
      rw [hc6 (by omega), ez, hi, show 6 + 1 - 6 = 0 + 1 by omega, fl_take hz, List.take_zero]
      show c3.toInt + (z.length : Int) = c3.toInt + (((0 : Nat) : Int) + (z.length : Int))
      omega
theorem zs_86q (hP : P = 3 ∨ P = 39) (he : e = 76 ∨ e = 78 ∨ e = 80) (hA : KI (s.2 (P + 22)) = ar) (h6 : ∀ c, 0 ≤ ar c ∧ ar c ≤ 7) (h24 : ∀ c, 24 ≤ c → ar c = 0) (hS : SGz P s) (h2 : 0 ≤ a2.toInt ∧ a2.toInt ≤ 83000) (h3 : Y ≠ [] → 0 ≤ a3.toInt ∧ a3.toInt ≤ 83000) (hX : ar (KI (s.2 (P + 18)) a2.toInt) = (X.length : Int)) (hXr : ∀ x ∈ X, isR ar 1 x) (hXw : WDz P s (a2.toInt + 1) X.flatten) (hXl : X.flatten.length ≤ 60 ∧ X.length ≤ 7) (hY : a4.toInt = (Y.length : Int)) (hYr : ∀ x ∈ Y, isR ar 1 x) (hYw : WDz P s a3.toInt Y.flatten) (hYl : Y.flatten.length ≤ 400 ∧ Y.length ≤ 6) (ht : 18 ≤ t) (hXt : APtq t (a2.toInt + 1) X.flatten.length) (hYt : Y ≠ [] → APtq t a3.toInt Y.flatten.length) : Zt (d + 10) (wd P 86) 86 [.ref 75, .ref e, .int a2, .int a3, .int a4] s (fun v s' => v = none ∧ s'.1 = s.1 ∧ (∀ r, ¬ r = e → s'.2 r = s.2 r) ∧ ENzq P s' e t (eta X Y) 12) := zs_86gq hP (ev_3 he) hA h6 h24 hS h2 h3 hX hXr hXw hXl hY hYr hYw hYl ht hXt hYt
end QY1
section QY2
def PFzq (P : Nat) (t : Int) (s s' : zS) : Prop := (∀ r, ¬ r = P + 18 → s'.2 r = s.2 r) ∧ (∀ j : Nat, ((j : Int) < t ∨ 138 ≤ (j : Int)) → s'.2 (P + 18) j = s.2 (P + 18) j) ∧ ∀ c k, ¬ (c = 75 ∧ k = 3) → s'.1 c k = s.1 c k
variable {ar : Int → Int} {P d e : Nat} {s s' u : zS} {a1 : Int32} {A B : List Int} {η : Nat → List Int} {t x : Int}
theorem WDz_pfq (h : PFzq P t s s') (h0 : 0 ≤ x) (ha : APtq t x A.length) (g : WDz P s x A) : WDz P s' x A := fun i c hc => by
  have hi := (List.getElem?_eq_some_iff.mp hc).1
  rw [← g i c hc, KI_p (by omega), KI_p (by omega), h.2.1]
  rcases ha with w1 | w1
  · exact Or.inl (by omega)
  · exact Or.inr (by omega)
set_option maxHeartbeats 2000000 in
theorem zs_87gq (hP : P = 3 ∨ P = 39) (he : skE e = true) (hA : KI (s.2 (P + 22)) = ar) (h6 : ∀ c, 0 ≤ ar c ∧ ar c ≤ 7) (ht : (s.1 75 3).toInt = t) (ht2 : 18 ≤ t ∧ t + 60 ≤ 138) (hE : (∀ c ∈ A, c < 24) ∨ ENzq P s e t η 12) (hR : isR ar 1 A) (hl : A.length ≤ 60) (hc : ∀ c ∈ A, 0 ≤ c ∧ c < 36) (h1 : 0 ≤ a1.toInt ∧ a1.toInt ≤ 90000) (hw : WDz P s a1.toInt A) (hap : APtq t a1.toInt A.length) : Zt (d + 9) (wd P 87) 87 [.ref 75, .int a1, .ref e] s (fun v s' => PFzq P t s s' ∧ ∃ r : Int32, v = some (.int r) ∧ ((60 < (sbs η A).length ∧ r.toInt = -1 ∧ s'.1 = s.1) ∨ ((sbs η A).length ≤ 60 ∧ WDz P s' r.toInt (sbs η A) ∧ ((r = a1 ∧ s'.1 = s.1 ∧ (∀ c ∈ A, c < 24)) ∨ (r.toInt = t ∧ (s'.1 75 3).toInt = t + ((sbs η A).length : Int) ∧ ¬ ∀ c ∈ A, c < 24))))) := by
  have hlim : lim (P + 18) = 82938 := by rcases hP with rfl | rfl <;> decide +kernel
  have heP : ¬ e = P + 18 ∧ ¬ P + 22 = P + 18 := ⟨(ev_P hP he).1, by omega⟩
  obtain ⟨o1, o2⟩ := isR_o A 1 hR
  refine zc_87 hP he ?_
  unfold v_87_0
  refine ⟨fun c1 c3 c4 c5 c6 u => c1 = a1 ∧ u.1 = s.1 ∧ PFzq P t s u ∧ ∃ i : Nat, i ≤ A.length ∧ c6.toInt = a1.toInt + (i : Int) ∧ c4.toInt = opn ar 1 (A.take i) ∧ c3.toInt = ((sbs η (A.take i)).length : Int) ∧ (sbs η (A.take i)).length ≤ 60 ∧ WDz P u t (sbs η (A.take i)) ∧ ((c5.toInt = 0 ∧ ¬ ∀ c ∈ A.take i, c < 24) ∨ (c5.toInt = 1 ∧ ∀ c ∈ A.take i, c < 24)), fun c1 _ _ _ c6 _ => (60 + a1.toInt - c6.toInt).toNat, ⟨rfl, rfl, ⟨fun _ _ => rfl, fun _ _ => rfl, fun _ _ _ => rfl⟩, 0, Nat.zero_le _, by omega, by rw [List.take_zero]; exact (show (1 : Int32).toInt = 1 by decide), rfl, Nat.zero_le _, (fun i c hc => by cases hc), Or.inr ⟨by decide, fun c hc => (by cases hc)⟩⟩, ?_⟩
  rintro c1 c3 c4 c5 c6 u ⟨e1, f1, f2, i, g1, g2, g3, g4, g5, g6, g7⟩
  subst e1
  unfold v_87_8
  have fin : ¬ i < A.length → v_87_91 (fun j => Zt (d + 8) (wd P j) j) P e c1 c3 c4 c5 c6 u (fun v s' => PFzq P t s s' ∧ ∃ r : Int32, v = some (.int r) ∧ ((60 < (sbs η A).length ∧ r.toInt = -1 ∧ s'.1 = s.1) ∨ ((sbs η A).length ≤ 60 ∧ WDz P s' r.toInt (sbs η A) ∧ ((r = c1 ∧ s'.1 = s.1 ∧ (∀ c ∈ A, c < 24)) ∨ (r.toInt = t ∧ (s'.1 75 3).toInt = t + ((sbs η A).length : Int) ∧ ¬ ∀ c ∈ A, c < 24))))) := fun hi => by
    have ei : i = A.length := by omega
    rw [ei, List.take_length] at g4 g5 g6 g7
    unfold v_87_91
    refine ⟨fun y x1 hx1 s2 hs2 x3 hx3 => ?_, fun y => ?_⟩
    · have np : ¬ ∀ c ∈ A, c < 24 := by
        rcases g7 with q | q
        · exact q.2
        · omega
      rw [f1] at hx1
      have ex1 := hx1 (by omega)
      have et : s2.1 75 3 = x1 := by rw [hs2, zf_1, if_pos ⟨rfl, rfl⟩]
      rw [et] at hx3
      have ex3 := hx3 (by omega)
      have er : s2.2 = u.2 := by rw [hs2, zf_2]
      refine ⟨⟨fun r hr => by rw [er]; exact f2.1 r hr, fun j hj => by rw [er]; exact f2.2.1 j hj, fun c k hck => ?_⟩, x3, rfl, Or.inr ⟨g5, ?_, Or.inr ⟨by omega, by rw [et]; omega, np⟩⟩⟩
      · rw [hs2, zf_1, if_neg hck, f1]
      · rw [show x3.toInt = t by omega]
        intro i c hc
        rw [er]
        exact g6 i c hc
    · have hpl : ∀ c ∈ A, c < 24 := by
        rcases g7 with w1 | w1
        · exact absurd w1.1 y
        · exact w1.2
      refine ⟨f2, c1, rfl, Or.inr ⟨g5, ?_, Or.inl ⟨rfl, f1, hpl⟩⟩⟩
      rw [sbs_pl A hpl]
      exact WDz_pfq f2 h1.1 hap hw
  intro x1 hx1
  have ex1 := hx1 (by omega)
  refine ⟨fun y => fin (by omega), fun y => ⟨fun y1 => fin (fun hi => ?_), fun y1 x2 hx2 => ?_⟩⟩
  · have := o2 i hi
    omega
  have hi : i < A.length := by
    rcases Nat.lt_or_ge i A.length with h | h
    · exact h
    · have ei : i = A.length := by omega
      rw [ei, List.take_length, o1] at g3
      omega
  obtain ⟨c, hcc⟩ : ∃ c, A[i]? = some c := ⟨_, List.getElem?_eq_getElem hi⟩
  have hc36 := hc c (List.mem_of_getElem? hcc)
  have wA : WDz P u c1.toInt A := WDz_pfq f2 h1.1 hap hw
  have vc : (zg u (P + 18) c6).toInt = c := by
    rw [zg_K, g2]
    exact wA i c hcc
  rw [vc] at hx2
  have ev : (zg u (P + 22) (zg u (P + 18) c6)).toInt = ar c := by
    rw [zg_K, f2.1 _ heP.2, hA, vc]
  have hb := h6 c
  have ho := opn_b h6 (A.take i) 1
  rw [List.length_take] at ho
  -- one piece B, which stands at x
  have piece : ∀ (B : List Int) (x : Int) (fr to q8 : Int32), B = (if c < 24 then [c] else η (c - 24).toNat) → fr.toInt = x → to.toInt = x + (B.length : Int) → (0 ≤ x ∧ x ≤ 200000) → B.length ≤ 100000 → APtq t x B.length → WDz P s x B → (0 ≤ q8.toInt ↔ ¬ c < 24) → v_87_43 (fun j => Zt (d + 8) (wd P j) j) P e (fun a1' a3' a4' a5' a6' s' => (a1' = c1 ∧ s'.1 = s.1 ∧ PFzq P t s s' ∧ ∃ i : Nat, i ≤ A.length ∧ a6'.toInt = c1.toInt + (i : Int) ∧ a4'.toInt = opn ar 1 (A.take i) ∧ a3'.toInt = ((sbs η (A.take i)).length : Int) ∧ (sbs η (A.take i)).length ≤ 60 ∧ WDz P s' t (sbs η (A.take i)) ∧ ((a5'.toInt = 0 ∧ ¬ ∀ c ∈ A.take i, c < 24) ∨ (a5'.toInt = 1 ∧ ∀ c ∈ A.take i, c < 24))) ∧ (60 + c1.toInt - a6'.toInt).toNat < (60 + c1.toInt - c6.toInt).toNat) c1 c3 c4 c5 c6 (zg u (P + 18) c6) q8 fr to u (fun v s' => PFzq P t s s' ∧ ∃ r : Int32, v = some (.int r) ∧ ((60 < (sbs η A).length ∧ r.toInt = -1 ∧ s'.1 = s.1) ∨ ((sbs η A).length ≤ 60 ∧ WDz P s' r.toInt (sbs η A) ∧ ((r = c1 ∧ s'.1 = s.1 ∧ (∀ c ∈ A, c < 24)) ∨ (r.toInt = t ∧ (s'.1 75 3).toInt = t + ((sbs η A).length : Int) ∧ ¬ ∀ c ∈ A, c < 24))))) := by
    intro B x fr to q8 eB k1 k2 k3 k4 k5 k6 k7
    have hs1 : sbs η (A.take (i + 1)) = sbs η (A.take i) ++ B := by rw [sbs_s hcc, eB]
    have hsl : (sbs η (A.take (i + 1))).length = (sbs η (A.take i)).length + B.length := by rw [hs1, List.length_append]
    unfold v_87_43
    intro x3 hx3 x4 hx4
    have ex3 := hx3 (by omega)
    have ex4 := hx4 (by omega)
    refine ⟨fun y3 => ?_, fun y3 => ⟨f2, -1, rfl, Or.inl ⟨?_, by decide, f1⟩⟩⟩
    · refine ⟨fun b1 b3 b4 b5 b6 b7 b8 b9 b10 b11 w1 => b1 = c1 ∧ b4 = c4 ∧ b5 = c5 ∧ b6 = c6 ∧ b7 = zg u (P + 18) c6 ∧ b8 = q8 ∧ b9 = fr ∧ b10 = to ∧ w1.1 = s.1 ∧ PFzq P t s w1 ∧ ∃ k : Nat, k ≤ B.length ∧ b11.toInt = x + (k : Int) ∧ b3.toInt = ((sbs η (A.take i)).length : Int) + (k : Int) ∧ WDz P w1 t (sbs η (A.take i) ++ B.take k), fun _ _ _ _ _ _ _ _ _ b11 _ => (x + (B.length : Int) - b11.toInt).toNat, ⟨rfl, rfl, rfl, rfl, rfl, rfl, rfl, rfl, f1, f2, 0, Nat.zero_le _, by omega, by omega, by rw [List.take_zero, List.append_nil]; exact g6⟩, ?_⟩
      rintro b1 b3 b4 b5 b6 b7 b8 b9 b10 b11 w1 ⟨r1, r2, r3, r4, r5, r6, r7, r8, m1, m2, k, n1, n2, n3, n4⟩
      subst r1 r2 r3 r4 r5 r6 r7 r8
      unfold v_87_55
      have nxt : b10.toInt ≤ b11.toInt → ∀ p0 : Int32, ((p0.toInt = 0 ∧ ¬ ∀ c ∈ A.take (i + 1), c < 24) ∨ (p0.toInt = 1 ∧ ∀ c ∈ A.take (i + 1), c < 24)) → v_87_79 (fun j => Zt (d + 8) (wd P j) j) P e (fun a1' a3' a4' a5' a6' s' => (a1' = b1 ∧ s'.1 = s.1 ∧ PFzq P t s s' ∧ ∃ i : Nat, i ≤ A.length ∧ a6'.toInt = b1.toInt + (i : Int) ∧ a4'.toInt = opn ar 1 (A.take i) ∧ a3'.toInt = ((sbs η (A.take i)).length : Int) ∧ (sbs η (A.take i)).length ≤ 60 ∧ WDz P s' t (sbs η (A.take i)) ∧ ((a5'.toInt = 0 ∧ ¬ ∀ c ∈ A.take i, c < 24) ∨ (a5'.toInt = 1 ∧ ∀ c ∈ A.take i, c < 24))) ∧ (60 + b1.toInt - a6'.toInt).toNat < (60 + b1.toInt - b6.toInt).toNat) b1 b3 b4 b5 b6 (zg u (P + 18) b6) b8 b9 b10 b11 p0 w1 (fun v s' => PFzq P t s s' ∧ ∃ r : Int32, v = some (.int r) ∧ ((60 < (sbs η A).length ∧ r.toInt = -1 ∧ s'.1 = s.1) ∨ ((sbs η A).length ≤ 60 ∧ WDz P s' r.toInt (sbs η A) ∧ ((r = b1 ∧ s'.1 = s.1 ∧ (∀ c ∈ A, c < 24)) ∨ (r.toInt = t ∧ (s'.1 75 3).toInt = t + ((sbs η A).length : Int) ∧ ¬ ∀ c ∈ A, c < 24))))) := by
        intro hy p0 hp0
        have ek : k = B.length := by omega
        rw [ek, List.take_length, ← hs1] at n4
        have ev2 : (zg w1 (P + 22) (zg u (P + 18) b6)).toInt = ar c := by
          rw [zg_K, m2.1 _ heP.2, hA, vc]
        unfold v_87_79
        rw [ev2]
        intro y1' hy1 y2' hy2 y3' hy3
        have q1 := hy1 (by omega)
        have q2 := hy2 (by omega)
        have q3 := hy3 (by omega)
        refine ⟨⟨rfl, m1, m2, i + 1, by omega, by omega, ?_, by omega, by omega, n4, hp0⟩, by omega⟩
        rw [opn_s hcc]
        omega
      have pl0 : ¬ (∀ c ∈ A.take i, c < 24) ∨ ¬ c < 24 → ¬ ∀ c ∈ A.take (i + 1), c < 24 := fun h g => by
        rw [take_s hcc] at g
        rcases h with h | h
        · exact h (fun c' hc' => g c' (List.mem_append_left _ hc'))
        · exact h (g c (List.mem_append_right _ List.mem_cons_self))
      refine ⟨fun hy => ⟨fun y5 => ?_, fun y5 => ⟨fun y6 => ?_, fun y6 => ?_⟩⟩, fun hy x5 hx5 => ⟨Or.inr (by rw [m1] at hx5; have := hx5 (by omega); omega), fun s6 hs6 x7 hx7 x8 hx8 => ?_⟩⟩
      · refine nxt hy 0 (Or.inl ⟨by decide, pl0 (Or.inl ?_)⟩)
        rcases g7 with q | q
        · exact q.2
        · omega
      · exact nxt hy 0 (Or.inl ⟨by decide, pl0 (Or.inr (k7.mp y6))⟩)
      · refine nxt hy 1 (Or.inr ⟨by decide, ?_⟩)
        have hpl : ∀ c ∈ A.take i, c < 24 := by
          rcases g7 with q | q
          · exact absurd q.1 y5
          · exact q.2
        have hc24 : c < 24 := by
          rcases Int.lt_or_le c 24 with q | q
          · exact q
          · exact absurd (k7.mpr (by omega)) y6
        rw [take_s hcc]
        intro c' hc'
        rcases List.mem_append.mp hc' with q | q
        · exact hpl c' q
        · rw [List.mem_singleton.mp q]
          exact hc24
      · have hk : k < B.length := by omega
        obtain ⟨z, hz⟩ : ∃ z, B[k]? = some z := ⟨_, List.getElem?_eq_getElem hk⟩
        rw [m1] at hx5
        have ex5 := hx5 (by omega)
        have ex7 := hx7 (by omega)
        have ex8 := hx8 (by omega)
        have vz : (zg w1 (P + 18) b11).toInt = z := by
          rw [zg_K, n2]
          exact WDz_pfq m2 k3.1 k5 k6 k z hz
        have z6 : s6 = zr w1 (P + 18) x5.toInt.toNat (zg w1 (P + 18) b11) := by rw [hs6, zt_in (by rw [hlim]; omega)]
        have r6 : ∀ r j, s6.2 r j = if r = P + 18 ∧ j = x5.toInt.toNat then zg w1 (P + 18) b11 else w1.2 r j := fun r j => by rw [z6, zr_2]
        have m6 : PFzq P t s s6 := ⟨fun r hr => by
            rw [← m2.1 r hr]
            funext j
            rw [r6, if_neg (fun q => hr q.1)], fun j hj => by
            rw [← m2.2.1 j hj, r6, if_neg (fun q => ?_)]
            have := q.2
            omega, fun c k hck => by rw [z6, zr_1]; exact m2.2.2 c k hck⟩
        refine ⟨⟨rfl, rfl, rfl, rfl, rfl, rfl, rfl, rfl, by rw [z6, zr_1]; exact m1, m6, k + 1, by omega, by omega, by omega, ?_⟩, by dsimp only; omega⟩
        intro j c' hj
        have hj0 := (List.getElem?_eq_some_iff.mp hj).1
        rw [take_s hz, ← List.append_assoc] at hj
        rw [KI_p (by omega), r6]
        have hlk : (sbs η (A.take i) ++ B.take k).length = (sbs η (A.take i)).length + k := by
          rw [List.length_append, List.length_take]
          omega
        rcases Nat.lt_or_ge j (sbs η (A.take i) ++ B.take k).length with q | q
        · rw [List.getElem?_append_left q] at hj
          rw [if_neg (by omega), ← n4 j c' hj, KI_p (by omega)]
        · have hjl : j < (sbs η (A.take i) ++ B.take k ++ [z]).length := (List.getElem?_eq_some_iff.mp hj).1
          rw [List.length_append, List.length_singleton] at hjl
          have ej : j = (sbs η (A.take i) ++ B.take k).length := by omega
          rw [ej, List.getElem?_concat_length] at hj
          rw [if_pos ⟨rfl, by omega⟩, vz]
          exact Option.some.inj hj
    · have := sbs_le (η := η) (A := A) (i + 1)
      omega
  have ex2 := hx2 (by omega)
  refine ⟨fun y2 => ?_, fun y2 => ?_⟩
  · -- a PARAM
    have hE' : ENzq P s e t η 12 := by
      rcases hE with q | q
      · exact absurd (q c (List.mem_of_getElem? hcc)) (by omega)
      · exact q
    obtain ⟨z, n1, n2, n3, n4⟩ := hE' (c - 24).toNat (by omega)
    have ep : (((c - 24).toNat : Nat) : Int) = c - 24 := by omega
    rw [ep] at n1 n2
    unfold v_87_31
    refine ⟨fun y3 x3 hx3 => ?_, fun y3 => absurd y2 y3⟩
    have ex3 := hx3 (by omega)
    refine piece (η (c - 24).toNat) z _ _ _ (by rw [if_neg (by omega)]) ?_ ?_ (by omega) (by omega) n3.2.2.1 n4 ⟨fun _ => by omega, fun _ => y2⟩
    · rw [zg_K, f2.1 _ heP.1, ex2]
      exact n1
    · rw [zg_K, f2.1 _ heP.1, ex3, ex2]
      exact n2
  · unfold v_87_31
    refine ⟨fun y3 => absurd y3 y2, fun y3 x3 hx3 => ?_⟩
    have ex3 := hx3 (by omega)
    have hl1 : ([c] : List Int).length = 1 := rfl
    refine piece [c] (c1.toInt + (i : Int)) _ _ _ (by rw [if_pos (by omega)]) g2 (by rw [hl1]; omega) (by omega) (by rw [hl1]; omega) ?_ (WDz_one hw hcc) ⟨fun h => absurd h y2, fun h => by omega⟩
    rw [hl1]
    exact APt_inq hap (by omega) (by omega)
theorem zs_87q (hP : P = 3 ∨ P = 39) (he : e = 76 ∨ e = 78 ∨ e = 80) (hA : KI (s.2 (P + 22)) = ar) (h6 : ∀ c, 0 ≤ ar c ∧ ar c ≤ 7) (ht : (s.1 75 3).toInt = t) (ht2 : 18 ≤ t ∧ t + 60 ≤ 138) (hE : ENzq P s e t η 12) (hR : isR ar 1 A) (hl : A.length ≤ 60) (hc : ∀ c ∈ A, 0 ≤ c ∧ c < 36) (h1 : 0 ≤ a1.toInt ∧ a1.toInt ≤ 90000) (hw : WDz P s a1.toInt A) (hap : APtq t a1.toInt A.length) : Zt (d + 9) (wd P 87) 87 [.ref 75, .int a1, .ref e] s (fun v s' => PFzq P t s s' ∧ ∃ r : Int32, v = some (.int r) ∧ ((60 < (sbs η A).length ∧ r.toInt = -1 ∧ s'.1 = s.1) ∨ ((sbs η A).length ≤ 60 ∧ WDz P s' r.toInt (sbs η A) ∧ ((r = a1 ∧ s'.1 = s.1 ∧ (∀ c ∈ A, c < 24)) ∨ (r.toInt = t ∧ (s'.1 75 3).toInt = t + ((sbs η A).length : Int)))))) := Zt.imp (zs_87gq hP (ev_3 he) hA h6 ht ht2 (Or.inr hE) hR hl hc h1 hw hap) (fun v s' q => by
  obtain ⟨f1, r, q1, hr⟩ := q
  refine ⟨f1, r, q1, ?_⟩
  rcases hr with q | ⟨g1, g2, g3⟩
  · exact Or.inl q
  · refine Or.inr ⟨g1, g2, ?_⟩
    rcases g3 with q | q
    · exact Or.inl q
    · exact Or.inr ⟨q.1, q.2.1⟩)
end QY2
section QY3
variable {ar : Int → Int} {P d e : Nat} {s s' u v w : zS} {a1 a2 : Int32} {A B : List Int} {X Y : List (List Int)} {η θ : Nat → List Int} {t t' b b' : Int} {nf nv nf' nv' : Nat}
theorem PFz_rsq (h : PFzq P t u w) : (zf w 75 3 (u.1 75 3)).1 = u.1 ∧ PFzq P t u (zf w 75 3 (u.1 75 3)) := by
  have e1 : (zf w 75 3 (u.1 75 3)).1 = u.1 := by
    funext c k
    rw [zf_1]
    by_cases q : c = 75 ∧ k = 3
    · rw [if_pos q, q.1, q.2]
    · rw [if_neg q]
      exact h.2.2 c k q
  exact ⟨e1, h.1, h.2.1, fun c k _ => by rw [e1]⟩
theorem PFz_trq (h : PFzq P t s u) (ht : t ≤ t') (g : PFzq P t' u w) : PFzq P t s w := by
  refine ⟨fun r hr => by rw [g.1 r hr, h.1 r hr], fun j hj => ?_, fun c k hck => by rw [g.2.2 c k hck, h.2.2 c k hck]⟩
  have h1 : w.2 (P + 18) j = u.2 (P + 18) j := g.2.1 j (by
    rcases hj with q | q
    · exact Or.inl (by omega)
    · exact Or.inr q)
  rw [h1, h.2.1 j hj]
theorem APt_moq {x : Int} {n : Nat} (ht : t ≤ t') (h : APtq t x n) : APtq t' x n := by
  rcases h with q | q
  · exact Or.inl (by omega)
  · exact Or.inr q
theorem ENz_pfq {m : Nat} (h : PFzq P t s u) (ht : t ≤ t') (he : ¬ e = P + 18) (g : ENzq P s e t η m) : ENzq P u e t' η m := fun p hp => by
  obtain ⟨x, g1, g2, g3, g4⟩ := g p hp
  exact ⟨x, by rw [h.1 _ he]; exact g1, by rw [h.1 _ he]; exact g2, ⟨g3.1, g3.2.1, APt_moq ht g3.2.2.1, g3.2.2.2⟩, WDz_pfq h g3.1 g3.2.2.1 g4⟩
theorem SSz_pfq (h : PFzq P t s u) (g : SSz ar P s b X) : SSz ar P u b X := fun j A hA => by
  have e1 : slc u P (b + (j : Int)) 3 = slc s P (b + (j : Int)) 3 := by
    unfold slc
    rw [h.1 _ (by omega)]
  obtain ⟨g1, g2, g3⟩ := g j A hA
  rw [e1]
  exact ⟨g1, WDz_pfq h (by omega) (Or.inr (by omega)) g2, g3⟩
set_option maxHeartbeats 2000000 in
theorem zs_89q (hP : P = 3 ∨ P = 39) (hA : KI (s.2 (P + 22)) = ar) (h6 : ∀ c, 0 ≤ ar c ∧ ar c ≤ 7) (h24 : ∀ c, 24 ≤ c → ar c = 0) (ht : (s.1 75 3).toInt = t) (ht2 : 18 ≤ t ∧ t + 120 ≤ 138) (hE : ENzq P s 80 t η 12) (hF : ENzq P s 78 t θ 12) (hEr : ∀ p, p < 12 → isR ar 1 (η p)) (hFr : ∀ p, p < 12 → isR ar 1 (θ p)) (h1 : 0 ≤ a1.toInt ∧ a1.toInt ≤ 5000) (h2 : 0 ≤ a2.toInt ∧ a2.toInt ≤ 5000) (n1 : sgc s P a1.toInt 3 = (nf : Int) ∧ sgc s P a1.toInt 4 = (nv : Int) ∧ sgc s P a1.toInt 2 = b) (n2 : sgc s P a2.toInt 3 = (nf' : Int) ∧ sgc s P a2.toInt 4 = (nv' : Int) ∧ sgc s P a2.toInt 2 = b') (hn : nf ≤ 6 ∧ nv ≤ 6) (hb : 0 ≤ b ∧ b ≤ 4000) (hb' : 0 ≤ b' ∧ b' ≤ 4000) (hX : SSz ar P s b X) (hXl : X.length = nf + nv + 1) (hY : SSz ar P s b' Y) (hYl : Y.length = nf' + nv' + 1) : Zt (d + 10) (wd P 89) 89 [.ref 75, .int a1, .int a2] s (fun v s' => (s'.1 = s.1 ∧ PFzq P t s s') ∧ ∃ r : Int32, v = some (.int r) ∧ r.toInt = if nf = nf' then alkL η θ (decide (¬ nv = nv')) nf X Y else 7) := by
  have hne : ¬ (80 : Nat) = P + 18 ∧ ¬ (78 : Nat) = P + 18 ∧ ¬ P + 22 = P + 18 ∧ ¬ P + 28 = P + 18 ∧ ¬ P + 30 = P + 18 := by rcases hP with rfl | rfl <;> decide
  have m1 := zg_sg (s := s) (P := P) (c := 3) (k := 3) (by decide) (by decide) h1
  have m2 := zg_sg (s := s) (P := P) (c := 4) (k := 4) (by decide) (by decide) h1
  have m3 := zg_sg (s := s) (P := P) (c := 2) (k := 2) (by decide) (by decide) h1
  have m4 := zg_sg (s := s) (P := P) (c := 3) (k := 3) (by decide) (by decide) h2
  have m6 := zg_sg (s := s) (P := P) (c := 2) (k := 2) (by decide) (by decide) h2
  have hcE : ∀ (η : Nat → List Int), (∀ p, p < 12 → isR ar 1 (η p)) → ∀ A : List Int, (∀ c ∈ A, 0 ≤ c ∧ c < 36) → isR ar 1 A → isR ar 1 (sbs η A) := fun η hη A hA' hR => sbs_R A 1 hR (fun c hc' hc24 => ⟨h24 c hc24, hη _ (by have := hA' c hc'; omega)⟩)
  refine zc_89 (d := d + 1) hP ?_
  unfold v_89_0
  refine ⟨fun y => ?_, fun y => ⟨⟨rfl, fun _ _ => rfl, fun _ _ => rfl, fun _ _ _ => rfl⟩, 7, rfl, by rw [if_neg (by omega)]; decide⟩⟩
  have hff : nf = nf' := by omega
  rw [if_pos hff]
  obtain ⟨V, hV⟩ : ∃ V, alkL η θ (decide (¬ nv = nv')) nf X Y = V := ⟨_, rfl⟩
  rw [hV]
  refine ⟨fun c1 c2 c3 c4 c5 c6 c7 u => c1 = a1 ∧ c2 = a2 ∧ c3.toInt = (nf : Int) ∧ c4.toInt = (nv : Int) ∧ c5.toInt = b ∧ c6.toInt = b' ∧ u.1 = s.1 ∧ PFzq P t s u ∧ ∃ i : Nat, c7.toInt = (i : Int) ∧ i ≤ nf + nv + 1 ∧ (nf < i → nv = nv') ∧ V = alkL η θ (decide (¬ nv = nv')) (nf - i) (X.drop i) (Y.drop i), fun _ _ _ _ _ _ c7 _ => (14 - c7.toInt).toNat, ⟨rfl, rfl, by omega, by omega, by omega, by omega, rfl, ⟨fun _ _ => rfl, fun _ _ => rfl, fun _ _ _ => rfl⟩, 0, by decide, by omega, fun h => absurd h (Nat.not_lt_zero _), hV.symm⟩, ?_⟩
  rintro c1 c2 c3 c4 c5 c6 c7 u ⟨e1, e2, e3, e4, e5, e6, f1, f2, i, g1, g2, g3, g4⟩
  subst e1 e2
  have m5 : (zg u (P + 28) (c2 * 5 + 4)).toInt = (nv' : Int) := by
    rw [zg_sg (s := u) (P := P) (c := 4) (k := 4) (by decide) (by decide) h2]
    unfold sgc
    rw [f2.1 _ hne.2.2.2.1]
    exact n2.2.1
  have main : i ≤ nf + nv → (nf ≤ i → nv = nv') → v_89_52 (fun j => Zt (d + 1 + 8) (wd P j) j) P (fun a1' a2' a3' a4' a5' a6' a7' s' => (a1' = c1 ∧ a2' = c2 ∧ a3'.toInt = (nf : Int) ∧ a4'.toInt = (nv : Int) ∧ a5'.toInt = b ∧ a6'.toInt = b' ∧ s'.1 = s.1 ∧ PFzq P t s s' ∧ ∃ i : Nat, a7'.toInt = (i : Int) ∧ i ≤ nf + nv + 1 ∧ (nf < i → nv = nv') ∧ V = alkL η θ (decide (¬ nv = nv')) (nf - i) (X.drop i) (Y.drop i)) ∧ (14 - a7'.toInt).toNat < (14 - c7.toInt).toNat) c1 c2 c3 c4 c5 c6 c7 u (fun v s' => (s'.1 = s.1 ∧ PFzq P t s s') ∧ ∃ r : Int32, v = some (.int r) ∧ r.toInt = V) := by
    intro hi hv
    obtain ⟨x, hx⟩ : ∃ x, X[i]? = some x := ⟨_, List.getElem?_eq_getElem (by omega)⟩
    obtain ⟨y', hy⟩ : ∃ y', Y[i]? = some y' := ⟨_, List.getElem?_eq_getElem (by
      rcases Nat.lt_or_ge i nf with q | q
      · omega
      · have := hv q
        omega)⟩
    have val : alkL η θ (decide (¬ nv = nv')) (nf - i) (X.drop i) (Y.drop i) = if 60 < (sbs η x).length ∨ 60 < (sbs θ y').length then 9 else if sbs η x = sbs θ y' then alkL η θ (decide (¬ nv = nv')) (nf - (i + 1)) (X.drop (i + 1)) (Y.drop (i + 1)) else 7 := by
      rw [drop_at hx, drop_at hy]
      show (if nf - i = 0 ∧ decide (¬ nv = nv') = true then (7 : Int) else _) = _
      rw [if_neg (fun q : nf - i = 0 ∧ decide (¬ nv = nv') = true => (of_decide_eq_true q.2) (hv (by have := q.1; omega))), Nat.sub_sub]
    obtain ⟨p1, p2, p3, p4, p5⟩ := SSz_pfq f2 hX i x hx
    unfold v_89_52
    intro x1 hx1
    have ex1 := hx1 (by omega)
    have es1 : (zg u (P + 30) (x1 * 5 + 3)).toInt = slc u P (b + (i : Int)) 3 := by
      rw [zg_sl (s := u) (P := P) (c := 3) (k := 3) (by decide) (by decide) (by omega)]
      rw [ex1, e5, g1]
    refine Zt.imp (Zt.mo (d := 9) (by omega) (zs_87q (d := 0) (A := x) (ar := ar) (t := t) (η := η) hP (Or.inr (Or.inr rfl)) (by rw [f2.1 _ hne.2.2.1]; exact hA) h6 (by rw [f1]; exact ht) (by omega) (ENz_pfq f2 (Int.le_refl _) hne.1 hE) p3 p4 p5 (by omega) (by rw [es1]; exact p2) (Or.inr (by omega)))) ?_
    rintro v3 s4 ⟨k1, x5, rfl, k2⟩
    refine ⟨x5, rfl, fun y5 x6 hx6 => ?_, fun y5 => ?_⟩
    · -- theirs is not too great
      obtain ⟨k3, k4, k5⟩ : (sbs η x).length ≤ 60 ∧ WDz P s4 x5.toInt (sbs η x) ∧ ((x5 = zg u (P + 30) (x1 * 5 + 3) ∧ s4.1 = u.1 ∧ (∀ c ∈ x, c < 24)) ∨ (x5.toInt = t ∧ (s4.1 75 3).toInt = t + ((sbs η x).length : Int))) := by
        rcases k2 with ⟨-, q, -⟩ | q
        · omega
        · exact q
      have ex6 := hx6 (by omega)
      obtain ⟨T4, hT4⟩ : ∃ T4, (s4.1 75 3).toInt = T4 := ⟨_, rfl⟩
      have hTt : t ≤ T4 ∧ T4 ≤ t + 60 := by
        rcases k5 with ⟨-, q, -⟩ | ⟨-, q⟩
        · rw [q, f1, ht] at hT4
          omega
        · omega
      have hap5 : APtq T4 x5.toInt (sbs η x).length ∧ 0 ≤ x5.toInt ∧ x5.toInt ≤ 82938 := by
        rcases k5 with ⟨q, -, -⟩ | ⟨q1, q2⟩
        · rw [q, es1]
          exact ⟨Or.inr (by omega), by omega, by omega⟩
        · exact ⟨Or.inl (by omega), by omega, by omega⟩
      have f4 : PFzq P t s s4 := PFz_trq f2 (Int.le_refl _) k1
      obtain ⟨q1, q2, q3, q4, q5⟩ := SSz_pfq f4 hY i y' hy
      have es2 : (zg s4 (P + 30) (x6 * 5 + 3)).toInt = slc s4 P (b' + (i : Int)) 3 := by
        rw [zg_sl (s := s4) (P := P) (c := 3) (k := 3) (by decide) (by decide) (by omega)]
        rw [ex6, e6, g1]
      refine Zt.imp (Zt.mo (d := 9) (by omega) (zs_87q (d := 0) (A := y') (ar := ar) (t := T4) (η := θ) hP (Or.inr (Or.inl rfl)) (by rw [f4.1 _ hne.2.2.1]; exact hA) h6 hT4 (by omega) (ENz_pfq f4 hTt.1 hne.2.1 hF) q3 q4 q5 (by omega) (by rw [es2]; exact q2) (Or.inr (by omega)))) ?_
      rintro v8 s9 ⟨l1, x10, rfl, l2⟩
      refine ⟨x10, rfl, ?_⟩
      unfold v_89_82
      intro s11 hs11
      obtain ⟨r1, r2⟩ := PFz_rsq (PFz_trq k1 hTt.1 l1)
      rw [← hs11] at r1 r2
      have fr : s11.1 = s.1 ∧ PFzq P t s s11 := ⟨by rw [r1, f1], PFz_trq f2 (Int.le_refl _) r2⟩
      have e22 : s11.2 = s9.2 := by rw [hs11, zf_2]
      refine ⟨fun y10 => ?_, fun y10 => ⟨fr, 9, rfl, ?_⟩⟩
      · obtain ⟨l3, l4, l5⟩ : (sbs θ y').length ≤ 60 ∧ WDz P s9 x10.toInt (sbs θ y') ∧ ((x10 = zg s4 (P + 30) (x6 * 5 + 3) ∧ s9.1 = s4.1 ∧ (∀ c ∈ y', c < 24)) ∨ (x10.toInt = T4 ∧ (s9.1 75 3).toInt = T4 + ((sbs θ y').length : Int))) := by
          rcases l2 with ⟨-, q, -⟩ | q
          · omega
          · exact q
        have h10 : x10.toInt ≤ 82938 := by
          rcases l5 with ⟨q, -, -⟩ | ⟨q, -⟩
          · rw [q, es2]
            exact q1.2
          · omega
        have w5 : WDz P s11 x5.toInt (sbs η x) := by
          intro j c hj
          rw [e22]
          exact WDz_pfq l1 hap5.2.1 hap5.1 k4 j c hj
        have w10 : WDz P s11 x10.toInt (sbs θ y') := by
          intro j c hj
          rw [e22]
          exact l4 j c hj
        refine Zt.imp (Zt.mo (d := 9) (by omega) (zs_84 (d := 0) (ar := ar) (A := sbs η x) (B := sbs θ y') hP (by rw [fr.2.1 _ hne.2.2.1]; exact hA) h6 (hcE η hEr x p5 p3) (hcE θ hFr y' q5 q3) k3 (by omega) (by omega) w5 w10)) ?_
        rintro v12 s13 ⟨hs13, x14, rfl, hr⟩
        subst hs13
        refine ⟨x14, rfl, fun y14 x15 hx15 => ?_, fun y14 => ⟨fr, 7, rfl, ?_⟩⟩
        · have hs : sbs η x = sbs θ y' := by
            rcases hr with q | q
            · exact q.2
            · exact absurd q.1 y14
          have ex15 := hx15 (by omega)
          refine ⟨⟨rfl, rfl, e3, e4, e5, e6, fr.1, fr.2, i + 1, by omega, by omega, fun h => hv (by omega), ?_⟩, by omega⟩
          rw [g4, val, if_neg (by omega), if_pos hs]
        · have hs : ¬ sbs η x = sbs θ y' := by
            rcases hr with q | q
            · omega
            · exact q.2
          rw [g4, val, if_neg (by omega), if_neg hs]
          decide
      · have hg : 60 < (sbs θ y').length := by
          rcases l2 with ⟨q, -, -⟩ | ⟨-, -, q⟩
          · exact q
          · rcases q with ⟨q, -, -⟩ | ⟨q, -⟩
            · rw [q, es2] at y10
              omega
            · omega
        rw [g4, val, if_pos (Or.inr hg)]
        decide
    · -- theirs is too great
      have hg : 60 < (sbs η x).length := by
        rcases k2 with ⟨q, -, -⟩ | ⟨-, -, q⟩
        · exact q
        · rcases q with ⟨q, -, -⟩ | ⟨q, -⟩
          · rw [q, es1] at y5
            omega
          · omega
      unfold v_89_82
      intro s11 hs11
      obtain ⟨r1, r2⟩ := PFz_rsq k1
      rw [← hs11] at r1 r2
      refine ⟨fun y10 => absurd y10 (by decide), fun y10 => ⟨⟨by rw [r1, f1], PFz_trq f2 (Int.le_refl _) r2⟩, 9, rfl, ?_⟩⟩
      rw [g4, val, if_pos (Or.inl hg)]
      decide
  unfold v_89_35
  intro x1 hx1
  have ex1 := hx1 (by omega)
  refine ⟨fun y1 => ⟨⟨f1, f2⟩, 0, rfl, ?_⟩, fun y1 => ⟨fun y2 => main (by omega) (fun h => g3 (by omega)), fun y2 => ⟨fun y3 => main (by omega) (fun h => by omega), fun y3 => ⟨⟨f1, f2⟩, 7, rfl, ?_⟩⟩⟩⟩
  · rw [g4, List.drop_eq_nil_of_le (by omega)]
    show (0 : Int32).toInt = alkL η θ _ _ [] _
    unfold alkL
    decide
  · obtain ⟨x, hx⟩ : ∃ x, X[i]? = some x := ⟨_, List.getElem?_eq_getElem (by omega)⟩
    obtain ⟨y', hy⟩ : ∃ y', Y[i]? = some y' := ⟨_, List.getElem?_eq_getElem (by omega)⟩
    rw [g4, drop_at hx, drop_at hy]
    show (7 : Int32).toInt = if nf - i = 0 ∧ decide (¬ nv = nv') = true then (7 : Int) else _
    rw [if_pos ⟨by omega, decide_eq_true (by omega)⟩]
    decide
end QY3
section QY5
def MFzq (P : Nat) (t : Int) (s s' : zS) : Prop := s'.1 = s.1 ∧ (∀ r, ¬ r = P + 18 → ¬ r = 78 → ¬ r = 80 → s'.2 r = s.2 r) ∧ ∀ j : Nat, ((j : Int) < t ∨ 138 ≤ (j : Int)) → s'.2 (P + 18) j = s.2 (P + 18) j
variable {ar K kd : Int → Int} {cf : Nat → Int} {P d e F H m : Nat} {s s' u : zS} {a1 a2 : Int32} {l A' B' O' : List Int} {X Y : List (List Int)} {η θ : Nat → List Int} {t n c x ca cb co : Int} {TN : List Int} {hd : Nat → Nat × Nat × List (List Int)}
theorem ENz_rq (h : s'.2 e = s.2 e) (h2 : s'.2 (P + 18) = s.2 (P + 18)) (g : ENzq P s e t η m) : ENzq P s' e t η m := fun p hp => by
  obtain ⟨x, g1, g2, g3, g4⟩ := g p hp
  exact ⟨x, by rw [h]; exact g1, by rw [h]; exact g2, g3, WDz_r h2 g4⟩
theorem MFz_wdq (h : MFzq P t s u) (h0 : 0 ≤ x) (ha : APtq t x l.length) (g : WDz P s x l) : WDz P u x l := fun i c hc => by
  have hi := (List.getElem?_eq_some_iff.mp hc).1
  rw [← g i c hc, KI_p (by omega), KI_p (by omega), h.2.2]
  rcases ha with w1 | w1
  · exact Or.inl (by omega)
  · exact Or.inr (by omega)
theorem MFz_pfq (h : MFzq P t s s') (g1 : u.1 = s'.1) (g : PFzq P t s' u) : MFzq P t s u :=
  ⟨by rw [g1, h.1], fun r h1 h2 h3 => by rw [g.1 r h1, h.2.1 r h1 h2 h3], fun j hj => by rw [g.2.1 j hj, h.2.2 j hj]⟩
theorem HDz_mfq (hP : P = 3 ∨ P = 39) (h : MFzq P t s u) (g : HDz ar P s hd H) : HDz ar P u hd H := fun q hq => by
  have e28 : u.2 (P + 28) = s.2 (P + 28) := h.2.1 _ (by omega) (by omega) (by omega)
  have e30 : u.2 (P + 30) = s.2 (P + 30) := h.2.1 _ (by omega) (by omega) (by omega)
  have es : ∀ i c, sgc u P i c = sgc s P i c := fun i c => by
    unfold sgc
    rw [e28]
  have el : ∀ i c, slc u P i c = slc s P i c := fun i c => by
    unfold slc
    rw [e30]
  obtain ⟨g1, g2, g3, g4⟩ := g q hq
  rw [es, es, es]
  refine ⟨g1, g2, g3, fun j A hA => ?_⟩
  obtain ⟨k1, k2, k3⟩ := g4 j A hA
  rw [el]
  exact ⟨k1, MFz_wdq h (by omega) (Or.inr (by omega)) k2, k3⟩
end QY5
section QY6
variable {ar K kd : Int → Int} {cf : Nat → Int} {P d F H : Nat} {s : zS} {a1 a2 : Int32} {A' B' O' : List Int} {t n ca cb co : Int} {TN : List Int} {hd : Nat → Nat × Nat × List (List Int)}
theorem MFz_r4q {u : zS} (hP : P = 3 ∨ P = 39) (g : MFzq P t s u) : u.2 (P + 24) = s.2 (P + 24) ∧ u.2 (P + 26) = s.2 (P + 26) ∧ u.2 (P + 28) = s.2 (P + 28) ∧ u.2 (P + 22) = s.2 (P + 22) := ⟨g.2.1 _ (by omega) (by omega) (by omega), g.2.1 _ (by omega) (by omega) (by omega), g.2.1 _ (by omega) (by omega) (by omega), g.2.1 _ (by omega) (by omega) (by omega)⟩
set_option maxHeartbeats 4000000 in
theorem zs_88q (hP : P = 3 ∨ P = 39) (hA : KI (s.2 (P + 22)) = ar) (h6 : ∀ c, 0 ≤ ar c ∧ ar c ≤ 7) (h24 : ∀ c, 24 ≤ c → ar c = 0) (ht : (s.1 75 3).toInt = t) (ht2 : 18 ≤ t ∧ t + 120 ≤ 138) (hS : SGz P s) (hT : TNz P s K n TN) (hK : KDz P s kd TN) (hF : FNi P s cf (TN.length : Int) F) (hF6 : F ≤ 60) (hH : H ≤ 4000) (hHd : HDz ar P s hd H) (hF1 : ∀ f : Nat, f < F → 0 ≤ fnc s P (f : Int) 5 ∧ fnc s P (f : Int) 5 < (H : Int)) (hH2 : ∀ c, kd c = 2 → 0 ≤ tyc s P c 3 ∧ 0 ≤ tyc s P c 4 ∧ tyc s P c 4 ≤ 100 ∧ tyc s P c 3 + tyc s P c 4 ≤ (H : Int))
    (hAr : isR ar 1 (ca :: A')) (hAl : (ca :: A').length ≤ 60) (hAc : 0 ≤ ca ∧ ca < 36) (h1 : 0 ≤ a1.toInt ∧ a1.toInt ≤ 82938) (hAw : WDz P s a1.toInt (ca :: A')) (hAp : APtq t a1.toInt (ca :: A').length)
    (hBr : isR ar 1 (cb :: B')) (hBl : (cb :: B').length ≤ 60) (hBc : 0 ≤ cb ∧ cb < 36) (h2 : 0 ≤ a2.toInt ∧ a2.toInt ≤ 82938) (hBw : WDz P s a2.toInt (cb :: B')) (hBp : APtq t a2.toInt (cb :: B').length)
    (h4 : 24 ≤ ca → ca < 30 → (0 ≤ (s.1 75 4).toInt ∧ (s.1 75 4).toInt ≤ 100) ∧ 0 ≤ tyc s P (s.1 75 4).toInt 2 ∧ tyc s P (s.1 75 4).toInt 2 ≤ 4000) (h5 : 30 ≤ ca → (0 ≤ (s.1 75 6).toInt ∧ (s.1 75 6).toInt ≤ 4000) ∧ 0 ≤ sgc s P (s.1 75 6).toInt 2 ∧ sgc s P (s.1 75 6).toInt 2 ≤ 4000)
    (hO : (ca < 24 ∧ co :: O' = ca :: A') ∨ (24 ≤ ca ∧ ∃ x : Int, x = (if ca < 30 then slc s P (tyc s P (s.1 75 4).toInt 2 + (ca - 24)) 3 else slc s P (sgc s P (s.1 75 6).toInt 2 + (ca - 30)) 3) ∧ 138 ≤ x ∧ x ≤ 82938 ∧ WDz P s x (co :: O') ∧ isR ar 1 (co :: O') ∧ (co :: O').length ≤ 60)) (hco : 0 ≤ co ∧ co ≤ 100) :
    Zt (d + 11) (wd P 88) 88 [.ref 75, .int a1, .int a2] s (fun v s' => MFzq P t s s' ∧ ∃ r : Int32, v = some (.int r) ∧ r.toInt = if kd cb = 2 then mtL (sgO cf F kd P s co) (fun h => sgc s P (h : Int) 1) hd (eta (argT ar (cb :: B')) sTn) (eta (argT ar (co :: O')) sTn) (tyc s P cb 3).toNat (tyc s P cb 4).toNat else if ca :: A' = cb :: B' then 0 else 7) := by
  have wA : KI (s.2 (P + 18)) a1.toInt = ca := by
    have := hAw 0 ca rfl
    rw [show a1.toInt + ((0 : Nat) : Int) = a1.toInt by omega] at this
    exact this
  have wB : KI (s.2 (P + 18)) a2.toInt = cb := by
    have := hBw 0 cb rfl
    rw [show a2.toInt + ((0 : Nat) : Int) = a2.toInt by omega] at this
    exact this
  have zB : (zg s (P + 18) a2).toInt = cb := by
    rw [zg_K]
    exact wB
  obtain ⟨fc, hfc⟩ : ∃ fc, zg s (P + 18) a2 = fc := ⟨_, rfl⟩
  rw [hfc] at zB
  have zk := zInf_k (kd := kd) hT hK (x := fc) (by omega)
  rw [zB] at zk
  refine zc_88 (d := d + 2) hP ?_
  unfold v_88_0
  rw [hfc]
  refine ⟨fun y => ?_, fun y => ?_⟩
  · have k2 : kd cb = 2 := by
      by_cases q : kd cb = 2
      · exact q
      · exact absurd (zk.1.mpr q) y
    rw [if_pos k2]
    obtain ⟨V, hV⟩ : ∃ V, mtL (sgO cf F kd P s co) (fun h => sgc s P (h : Int) 1) hd (eta (argT ar (cb :: B')) sTn) (eta (argT ar (co :: O')) sTn) (tyc s P cb 3).toNat (tyc s P cb 4).toNat = V := ⟨_, rfl⟩
    rw [hV]
    obtain ⟨m1, m2, m3, m4⟩ := hH2 cb k2
    refine Zt.imp (Zt.mo (d := 9) (by omega) (zs_90 (d := 0) hP (by rw [wA]; omega) (by rw [wA]; exact h4) (by rw [wA]; exact h5))) ?_
    rintro v1 s2 ⟨hs2, x3, rfl, hr3⟩
    subst hs2
    refine ⟨x3, rfl, ?_⟩
    rw [wA] at hr3
    obtain ⟨o1, o2, o3, o4, o5⟩ : (0 ≤ x3.toInt ∧ x3.toInt ≤ 82938) ∧ WDz P s2 x3.toInt (co :: O') ∧ APtq t x3.toInt (co :: O').length ∧ isR ar 1 (co :: O') ∧ (co :: O').length ≤ 60 := by
      rcases hO with ⟨q1, q2⟩ | ⟨q1, x, q2, q3, q4, q5, q6, q7⟩
      · rw [if_pos q1] at hr3
        rw [hr3, q2]
        exact ⟨h1, hAw, hAp, hAr, hAl⟩
      · rw [if_neg (by omega), ← q2] at hr3
        rw [hr3]
        exact ⟨by omega, q5, Or.inr (by omega), q6, q7⟩
    clear hO
    have wO : KI (s2.2 (P + 18)) x3.toInt = co := by
      have := o2 0 co rfl
      rw [show x3.toInt + ((0 : Nat) : Int) = x3.toInt by omega] at this
      exact this
    have tail : ∀ {c : Int} {l : List Int} {x : Int}, WDz P s2 x (c :: l) → WDz P s2 (x + 1) l := fun {c l x} g i c' hc' => by
      have := g (i + 1) c' hc'
      rw [show x + ((i + 1 : Nat) : Int) = x + 1 + (i : Int) by omega] at this
      exact this
    obtain ⟨p1, p2, p3⟩ := argT_ok h6 o4
    obtain ⟨q1, q2, q3⟩ := argT_ok h6 hBr
    have hsl : sTn.flatten.length = 6 ∧ sTn.length = 6 := ⟨rfl, rfl⟩
    have e12 : (12 : Int32).toInt = 12 := by decide
    have hac := h6 co
    have hbc := h6 cb
    have lO : (co :: O').length = O'.length + 1 := rfl
    have lB : (cb :: B').length = B'.length + 1 := rfl
    have ap1 : ∀ {x : Int} {m : Nat}, APtq t x (m + 1) → APtq t (x + 1) m := fun {x m} g => APt_inq g (by omega) (by omega)
    have hP18 : ¬ P + 18 = 78 ∧ ¬ P + 18 = 80 ∧ ¬ P + 22 = 78 ∧ ¬ P + 22 = P + 18 ∧ ¬ P + 22 = 80 ∧ ¬ (78 : Nat) = P + 18 ∧ ¬ (80 : Nat) = P + 18 := by rcases hP with rfl | rfl <;> decide
    refine Zt.imp (Zt.mo (d := 10) (by omega) (zs_86q (d := 0) (e := 78) (ar := ar) (t := t) (X := argT ar (co :: O')) (Y := sTn) hP (Or.inr (Or.inl rfl)) hA h6 h24 hS (by omega) (fun _ => by rw [e12]; omega) (by rw [wO]; exact p3.symm) p2 (by rw [p1]; exact tail o2) ⟨by rw [p1]; omega, by omega⟩ (by decide) (sTn_R h24) (by rw [e12]; exact sTn_W hS) ⟨by rw [hsl.1]; omega, by rw [hsl.2]; omega⟩ ht2.1 (by rw [p1]; exact ap1 o3) (fun _ => by rw [e12, hsl.1]; exact Or.inl (by omega)))) ?_
    rintro v4 s5 ⟨rfl, f1, f2, f3⟩
    refine ⟨rfl, ?_⟩
    have r18 : s5.2 (P + 18) = s2.2 (P + 18) := f2 _ hP18.1
    have r22 : KI (s5.2 (P + 22)) = ar := by
      rw [f2 _ hP18.2.2.1]
      exact hA
    have wB5 : KI (s5.2 (P + 18)) a2.toInt = cb := by
      rw [r18]
      exact wB
    have hS5 : SGz P s5 := fun i hi => by
      rw [r18]
      exact hS i hi
    refine Zt.imp (Zt.mo (d := 10) (by omega) (zs_86q (d := 0) (e := 80) (ar := ar) (t := t) (X := argT ar (cb :: B')) (Y := sTn) hP (Or.inr (Or.inr rfl)) r22 h6 h24 hS5 (by omega) (fun _ => by rw [e12]; omega) (by rw [wB5]; exact q3.symm) q2 (by rw [q1]; exact WDz_r r18 (tail hBw)) ⟨by rw [q1]; omega, by omega⟩ (by decide) (sTn_R h24) (by rw [e12]; exact sTn_W hS5) ⟨by rw [hsl.1]; omega, by rw [hsl.2]; omega⟩ ht2.1 (by rw [q1]; exact ap1 hBp) (fun _ => by rw [e12, hsl.1]; exact Or.inl (by omega)))) ?_
    rintro v6 s7 ⟨rfl, j1, j2, j3⟩
    refine ⟨rfl, ?_⟩
    have M7 : MFzq P t s2 s7 := ⟨by rw [j1, f1], fun r k1 k2 k3 => by rw [j2 r k3, f2 r k2], fun j hj => by rw [j2 _ hP18.2.1, r18]⟩
    have E78 : ENzq P s7 78 t (eta (argT ar (co :: O')) sTn) 12 := ENz_rq (j2 _ (by decide)) (j2 _ hP18.2.1) f3
    have rw3 : ∀ {u : zS}, MFzq P t s2 u → u.2 (P + 24) = s2.2 (P + 24) ∧ u.2 (P + 26) = s2.2 (P + 26) ∧ u.2 (P + 28) = s2.2 (P + 28) ∧ u.2 (P + 22) = s2.2 (P + 22) := fun {u} g => MFz_r4q hP g
    have ty_r : ∀ {u : zS} (c k : Int), MFzq P t s2 u → tyc u P c k = tyc s2 P c k := fun {u} c k g => by
      unfold tyc
      rw [(rw3 g).1]
    have sg_r : ∀ {u : zS} (c k : Int), MFzq P t s2 u → sgc u P c k = sgc s2 P c k := fun {u} c k g => by
      unfold sgc
      rw [(rw3 g).2.2.1]
    have t3 := zg_ty (s := s7) (P := P) (a1 := fc) (c := 3) (k := 3) (by decide) (by decide) (by omega)
    rw [zB, ty_r _ _ M7] at t3
    refine ⟨fun c1 c2 c3 c4 c5 c6 u => c1 = a1 ∧ c2 = a2 ∧ c3 = fc ∧ c4 = x3 ∧ c5.toInt = tyc s2 P cb 3 ∧ u.1 = s7.1 ∧ PFzq P t s7 u ∧ ∃ i : Nat, c6.toInt = (i : Int) ∧ (i : Int) ≤ tyc s2 P cb 4 ∧ V = mtL (sgO cf F kd P s2 co) (fun h => sgc s2 P (h : Int) 1) hd (eta (argT ar (cb :: B')) sTn) (eta (argT ar (co :: O')) sTn) ((tyc s2 P cb 3).toNat + i) ((tyc s2 P cb 4).toNat - i), fun _ _ _ _ _ c6 _ => (100 - c6.toInt).toNat, ⟨rfl, rfl, rfl, rfl, t3, rfl, ⟨fun _ _ => rfl, fun _ _ => rfl, fun _ _ _ => rfl⟩, 0, by decide, by omega, hV.symm⟩, ?_⟩
    rintro c1 c2 c3 c4 c5 c6 u ⟨e1, e2, e3, e4, g1, g2, g3, i, g4, g5, g6⟩
    subst e1 e2 e3 e4
    have Mu : MFzq P t s2 u := MFz_pfq M7 g2 g3
    obtain ⟨u24, u26, u28, u22⟩ := rw3 Mu
    have t4 := zg_ty (s := u) (P := P) (a1 := c3) (c := 4) (k := 4) (by decide) (by decide) (by omega)
    rw [zB, ty_r _ _ Mu] at t4
    unfold v_88_45
    rw [t4]
    refine ⟨fun y2 => ⟨Mu, 0, rfl, ?_⟩, fun y2 x2 hx2 => ?_⟩
    · rw [g6, show (tyc s2 P cb 4).toNat - i = 0 by omega]
      show (0 : Int32).toInt = 0
      decide
    · have ex2 := hx2 (by omega)
      obtain ⟨h, hh⟩ : ∃ h : Nat, h = (tyc s2 P cb 3).toNat + i := ⟨_, rfl⟩
      have hx2h : x2.toInt = (h : Int) := by omega
      have hhH : h < H := by omega
      have es : (zg u (P + 28) (x2 * 5 + 1)).toInt = sgc s2 P (h : Int) 1 := by
        rw [zg_sg (s := u) (P := P) (a1 := x2) (c := 1) (k := 1) (by decide) (by decide) (by omega), hx2h, sg_r _ _ Mu]
      have ew : (zg u (P + 18) c4).toInt = co := by
        rw [zg_K]
        have := MFz_wdq Mu o1.1 o3 o2 0 co rfl
        rw [show c4.toInt + ((0 : Nat) : Int) = c4.toInt by omega] at this
        exact this
      have val : V = if mtK (sgO cf F kd P s2 co) (fun h => sgc s2 P (h : Int) 1) hd (eta (argT ar (cb :: B')) sTn) (eta (argT ar (co :: O')) sTn) h = 0 then mtL (sgO cf F kd P s2 co) (fun h => sgc s2 P (h : Int) 1) hd (eta (argT ar (cb :: B')) sTn) (eta (argT ar (co :: O')) sTn) ((tyc s2 P cb 3).toNat + (i + 1)) ((tyc s2 P cb 4).toNat - (i + 1)) else mtK (sgO cf F kd P s2 co) (fun h => sgc s2 P (h : Int) 1) hd (eta (argT ar (cb :: B')) sTn) (eta (argT ar (co :: O')) sTn) h := by
        rw [g6, show (tyc s2 P cb 4).toNat - i = (tyc s2 P cb 4).toNat - (i + 1) + 1 by omega, hh]
        rfl
      have fin : ∀ (q7 k0 : Int32) (u' : zS), u'.1 = u.1 → PFzq P t u u' → k0.toInt = mtK (sgO cf F kd P s2 co) (fun h => sgc s2 P (h : Int) 1) hd (eta (argT ar (cb :: B')) sTn) (eta (argT ar (co :: O')) sTn) h → v_88_77 (fun j => Zt (d + 2 + 8) (wd P j) j) P (fun a1' a2' a3' a4' a5' a6' u' => (a1' = c1 ∧ a2' = c2 ∧ a3' = c3 ∧ a4' = c4 ∧ a5'.toInt = tyc s2 P cb 3 ∧ u'.1 = s7.1 ∧ PFzq P t s7 u' ∧ ∃ i : Nat, a6'.toInt = (i : Int) ∧ (i : Int) ≤ tyc s2 P cb 4 ∧ V = mtL (sgO cf F kd P s2 co) (fun h => sgc s2 P (h : Int) 1) hd (eta (argT ar (cb :: B')) sTn) (eta (argT ar (co :: O')) sTn) ((tyc s2 P cb 3).toNat + i) ((tyc s2 P cb 4).toNat - i)) ∧ (100 - a6'.toInt).toNat < (100 - c6.toInt).toNat) c1 c2 c3 c4 c5 c6 q7 k0 u' (fun v s' => MFzq P t s2 s' ∧ ∃ r : Int32, v = some (.int r) ∧ r.toInt = V) := by
        intro q7 k0 u' b1 b2 b3
        have b4 : u'.1 = s7.1 := by rw [b1, g2]
        have b5 : PFzq P t s7 u' := PFz_trq g3 (Int.le_refl _) b2
        unfold v_88_77
        rw [b3]
        refine ⟨fun y3 x1 hx1 => ?_, fun y3 => ⟨MFz_pfq M7 b4 b5, k0, rfl, ?_⟩⟩
        · have ex1 := hx1 (by omega)
          refine ⟨⟨rfl, rfl, rfl, rfl, g1, b4, b5, i + 1, by omega, by omega, ?_⟩, by omega⟩
          rw [val, if_pos y3]
        · rw [val, if_neg y3]
          exact b3
      refine Zt.imp (Zt.mo (d := 10) (by omega) (zs_52 (d := 0) hP (TNz_r Mu.1 u24 hT) (KDz_r u24 hK) (FNi_r u24 u26 hF) hF6 (by rw [ew]; exact hco) (fun q => ?_))) ?_
      · rw [ew] at q ⊢
        have := hH2 co q
        rw [ty_r _ _ Mu, ty_r _ _ Mu]
        omega
      rintro v4 s8 ⟨hs8, x6, rfl, hr6⟩
      subst hs8
      rw [ew, es, sgO_r u24 u26 u28] at hr6
      have hb := sgO_b (cf := cf) (kd := kd) (c := co) (x := sgc s2 P (h : Int) 1) hF1 hH2
      rw [← hr6] at hb
      refine ⟨x6, rfl, fun y6 x7 hx7 => ?_, fun y6 => ?_⟩
      · have ex7 := hx7 (by omega)
        have hx7h : x7.toInt = (h : Int) := by omega
        obtain ⟨g, hg⟩ : ∃ g : Nat, x6.toInt = (g : Int) := ⟨x6.toInt.toNat, by omega⟩
        have hHu := HDz_mfq hP Mu hHd
        obtain ⟨a3, a4, a5, a6⟩ := hHu h hhH
        obtain ⟨b3, b4, b5, b6⟩ := hHu g (by omega)
        refine Zt.imp (Zt.mo (d := 10) (by omega) (zs_89q (d := 0) (ar := ar) (t := t) (nf := (hd h).1) (nv := (hd h).2.1) (nf' := (hd g).1) (nv' := (hd g).2.1) (X := (hd h).2.2) (Y := (hd g).2.2) (η := eta (argT ar (cb :: B')) sTn) (θ := eta (argT ar (co :: O')) sTn) hP (by rw [u22]; exact hA) h6 h24 (by rw [Mu.1]; exact ht) (by omega) (ENz_pfq g3 (Int.le_refl _) hP18.2.2.2.2.2.2 j3) (ENz_pfq g3 (Int.le_refl _) hP18.2.2.2.2.2.1 E78) (fun p _ => eta_R h24 q2 (sTn_R h24) p) (fun p _ => eta_R h24 p2 (sTn_R h24) p) (by omega) (by omega) (by rw [hx7h]; exact ⟨a3.1, a3.2.1, rfl⟩) (by rw [hg]; exact ⟨b3.1, b3.2.1, rfl⟩) a4 a3.2.2 b3.2.2 a6 a5 b6 b5)) ?_
        rintro v8 s9 ⟨⟨w1, w2⟩, x10, rfl, hr10⟩
        refine ⟨x10, rfl, fin _ _ _ w1 w2 ?_⟩
        unfold mtK alkH
        rw [if_neg (by rw [← hr6]; omega), ← hr6, hr10, hg, Int.toNat_natCast]
      · refine fin _ _ _ rfl ⟨fun _ _ => rfl, fun _ _ => rfl, fun _ _ _ => rfl⟩ ?_
        unfold mtK
        rw [if_pos (by rw [← hr6]; omega)]
        decide
  · have k2 : ¬ kd cb = 2 := zk.1.mp y
    rw [if_neg k2]
    refine Zt.imp (Zt.mo (d := 9) (by omega) (zs_84 (d := 0) hP hA h6 hAr hBr hAl (by omega) (by omega) hAw hBw)) ?_
    rintro v9 s10 ⟨hs10, x11, rfl, hr⟩
    subst hs10
    have M0 : MFzq P t s10 s10 := ⟨rfl, fun _ _ _ _ => rfl, fun _ _ => rfl⟩
    refine ⟨x11, rfl, fun y1 => ⟨M0, 7, rfl, ?_⟩, fun y1 => ⟨M0, 0, rfl, ?_⟩⟩
    · rcases hr with q | q
      · omega
      · rw [if_neg q.2]
        decide
    · rcases hr with q | q
      · rw [if_pos q.2]
        decide
      · exact absurd q.1 y1
end QY6
/-- n words from x on lie ahead of t, or from 138 on and ahead of U -/
def APtu (U t x : Int) (n : Nat) : Prop := x + (n : Int) ≤ t ∨ (138 ≤ x ∧ x + (n : Int) ≤ U)
theorem APtu_in {U t x y : Int} {n m : Nat} (h : APtu U t x n) (h1 : x ≤ y) (h2 : y + (m : Int) ≤ x + (n : Int)) : APtu U t y m := by
  rcases h with w1 | w1
  · exact Or.inl (by omega)
  · exact Or.inr ⟨by omega, by omega⟩
def ENzu (U : Int) (P : Nat) (s : zS) (e : Nat) (t : Int) (η : Nat → List Int) (m : Nat) : Prop := ∀ p : Nat, p < m → ∃ x : Int, KI (s.2 e) (p : Int) = x ∧ KI (s.2 e) (12 + (p : Int)) = x + ((η p).length : Int) ∧ (0 ≤ x ∧ x ≤ 90000 ∧ APtu U t x (η p).length ∧ (η p).length ≤ 400) ∧ WDz P s x (η p)
section QU1
variable {ar : Int → Int} {P d e : Nat} {s s' : zS} {a2 a3 a4 : Int32} {A : List Int} {X Y : List (List Int)} {t : Int}
variable {U : Int}
set_option maxHeartbeats 2000000 in
theorem zs_86u (hP : P = 3 ∨ P = 39) (he : skE e = true) (hA : KI (s.2 (P + 22)) = ar) (h6 : ∀ c, 0 ≤ ar c ∧ ar c ≤ 7) (h24 : ∀ c, 24 ≤ c → ar c = 0) (hS : SGz P s) (h2 : 0 ≤ a2.toInt ∧ a2.toInt ≤ 83000) (h3 : Y ≠ [] → 0 ≤ a3.toInt ∧ a3.toInt ≤ 83000) (hX : ar (KI (s.2 (P + 18)) a2.toInt) = (X.length : Int)) (hXr : ∀ x ∈ X, isR ar 1 x) (hXw : WDz P s (a2.toInt + 1) X.flatten) (hXl : X.flatten.length ≤ 60 ∧ X.length ≤ 7) (hY : a4.toInt = (Y.length : Int)) (hYr : ∀ x ∈ Y, isR ar 1 x) (hYw : WDz P s a3.toInt Y.flatten) (hYl : Y.flatten.length ≤ 400 ∧ Y.length ≤ 6) (ht : 18 ≤ t) (hXt : APtu U t (a2.toInt + 1) X.flatten.length) (hYt : Y ≠ [] → APtu U t a3.toInt Y.flatten.length) : Zt (d + 10) (wd P 86) 86 [.ref 75, .ref e, .int a2, .int a3, .int a4] s (fun v s' => v = none ∧ s'.1 = s.1 ∧ (∀ r, ¬ r = e → s'.2 r = s.2 r) ∧ ENzu U P s' e t (eta X Y) 12) := by
  have hle : lim e = 24 := ev_l he
  have heP : ¬ P + 18 = e ∧ ¬ P + 22 = e := ⟨fun w => (ev_P hP he).1 w.symm, fun w => (ev_P hP he).2.1 w.symm⟩
  refine zc_86 (d := d + 1) hP he ?_
  unfold v_86_0
  intro x1 hx1
  have ex1 := hx1 (by omega)
  have en0 : (zg s (P + 22) (zg s (P + 18) a2)).toInt = (X.length : Int) := by
    rw [zg_K, hA, zg_K]
    exact hX
  refine ⟨fun c2 c3 c4 c5 c6 c7 u => c2 = a2 ∧ c3 = a3 ∧ c4 = a4 ∧ u.1 = s.1 ∧ (∀ r, ¬ r = e → u.2 r = s.2 r) ∧ ∃ i : Nat, i ≤ 12 ∧ c7.toInt = (i : Int) ∧ ENzu U P u e t (eta X Y) i ∧ (i ≤ 6 → c5.toInt = (X.length : Int) ∧ (i ≤ X.length → c6.toInt = a2.toInt + 1 + ((X.take i).flatten.length : Int))) ∧ (6 < i → c5.toInt = 6 + (Y.length : Int) ∧ (i - 6 ≤ Y.length → c6.toInt = a3.toInt + ((Y.take (i - 6)).flatten.length : Int))), fun _ _ _ _ _ c7 _ => (12 - c7.toInt).toNat, ⟨rfl, rfl, rfl, rfl, fun _ _ => rfl, 0, by decide, by decide, fun p hp => absurd hp (Nat.not_lt_zero _), fun _ => ⟨en0, fun _ => ?_⟩, fun h => absurd h (by decide)⟩, ?_⟩
  · rw [ex1, List.take_zero]
    show a2.toInt + 1 = a2.toInt + 1 + ((0 : Nat) : Int)
    omega
  rintro c2 c3 c4 c5 c6 c7 u ⟨e1, e2, e3, g1, g2, i, g3, g4, g5, g6, g7⟩
  subst e1 e2 e3
  -- one PARAM: cnt, at0 as they then stand
  have body : ∀ (cnt at0 : Int32), i < 12 → ((i : Int) < cnt.toInt → isR ar 1 (eta X Y i) ∧ WDz P s at0.toInt (eta X Y i) ∧ (0 ≤ at0.toInt ∧ at0.toInt ≤ 90000 ∧ APtu U t at0.toInt (eta X Y i).length) ∧ (eta X Y i).length ≤ 400) → (¬ (i : Int) < cnt.toInt → eta X Y i = [24 + (i : Int)]) → (∀ c6' : Int32, ((i : Int) < cnt.toInt → c6'.toInt = at0.toInt + ((eta X Y i).length : Int)) → (i + 1 ≤ 6 → cnt.toInt = (X.length : Int) ∧ (i + 1 ≤ X.length → c6'.toInt = c2.toInt + 1 + ((X.take (i + 1)).flatten.length : Int))) ∧ (6 < i + 1 → cnt.toInt = 6 + (Y.length : Int) ∧ (i + 1 - 6 ≤ Y.length → c6'.toInt = c3.toInt + ((Y.take (i + 1 - 6)).flatten.length : Int)))) → v_86_26 (fun j => Zt (d + 1 + 8) (wd P j) j) P e (fun c2' c3' c4' c5' c6' c7' u' => (c2' = c2 ∧ c3' = c3 ∧ c4' = c4 ∧ u'.1 = s.1 ∧ (∀ r, ¬ r = e → u'.2 r = s.2 r) ∧ ∃ i : Nat, i ≤ 12 ∧ c7'.toInt = (i : Int) ∧ ENzu U P u' e t (eta X Y) i ∧ (i ≤ 6 → c5'.toInt = (X.length : Int) ∧ (i ≤ X.length → c6'.toInt = c2.toInt + 1 + ((X.take i).flatten.length : Int))) ∧ (6 < i → c5'.toInt = 6 + (Y.length : Int) ∧ (i - 6 ≤ Y.length → c6'.toInt = c3.toInt + ((Y.take (i - 6)).flatten.length : Int)))) ∧ (12 - c7'.toInt).toNat < (12 - c7.toInt).toNat) c2 c3 c4 cnt at0 c7 u (fun v s' => v = none ∧ s'.1 = s.1 ∧ (∀ r, ¬ r = e → s'.2 r = s.2 r) ∧ ENzu U P s' e t (eta X Y) 12) := by
    intro cnt at0 hi12 b1 b2 b3
    have r18 : u.2 (P + 18) = s.2 (P + 18) := g2 _ heP.1
    have r22 : KI (u.2 (P + 22)) = ar := by rw [g2 _ heP.2]; exact hA
    -- from f0, which is where eta i stands
    have one : ∀ f0 : Int32, isR ar 1 (eta X Y i) → WDz P s f0.toInt (eta X Y i) → (0 ≤ f0.toInt ∧ f0.toInt ≤ 90000 ∧ APtu U t f0.toInt (eta X Y i).length) → (eta X Y i).length ≤ 400 → ((i : Int) < cnt.toInt → f0 = at0) → v_86_32 (fun j => Zt (d + 1 + 8) (wd P j) j) P e (fun c2' c3' c4' c5' c6' c7' u' => (c2' = c2 ∧ c3' = c3 ∧ c4' = c4 ∧ u'.1 = s.1 ∧ (∀ r, ¬ r = e → u'.2 r = s.2 r) ∧ ∃ i : Nat, i ≤ 12 ∧ c7'.toInt = (i : Int) ∧ ENzu U P u' e t (eta X Y) i ∧ (i ≤ 6 → c5'.toInt = (X.length : Int) ∧ (i ≤ X.length → c6'.toInt = c2.toInt + 1 + ((X.take i).flatten.length : Int))) ∧ (6 < i → c5'.toInt = 6 + (Y.length : Int) ∧ (i - 6 ≤ Y.length → c6'.toInt = c3.toInt + ((Y.take (i - 6)).flatten.length : Int)))) ∧ (12 - c7'.toInt).toNat < (12 - c7.toInt).toNat) c2 c3 c4 cnt at0 c7 f0 u (fun v s' => v = none ∧ s'.1 = s.1 ∧ (∀ r, ¬ r = e → s'.2 r = s.2 r) ∧ ENzu U P s' e t (eta X Y) 12) := by
      intro f0 k1 k2 k3 k4 k5
      unfold v_86_32
      refine Zt.imp (Zt.mo (d := 9) (by omega) (zs_83 (d := 0) (A := eta X Y i) hP r22 h6 k1 (by omega) (by omega) (WDz_r r18 k2))) ?_
      rintro v1 s2 ⟨hs2, x3, rfl, hx3⟩
      refine ⟨x3, rfl, by omega, fun s4 hs4 x5 hx5 => ⟨by omega, fun s6 hs6 => ?_⟩⟩
      have ex5 := hx5 (by omega)
      rw [hs2] at hs4
      have z4 : s4 = zr u e i f0 := by rw [hs4, zt_in (by rw [hle]; omega), g4, Int.toNat_natCast]
      have z6 : s6 = zr s4 e (12 + i) x3 := by rw [hs6, zt_in (by rw [hle]; omega), ex5, g4, show (12 + (i : Int)).toNat = 12 + i by omega]
      have f1 : s6.1 = s.1 := by rw [z6, zr_1, z4, zr_1]; exact g1
      have f2 : ∀ r, ¬ r = e → s6.2 r = s.2 r := fun r hr => by
        rw [← g2 r hr]
        funext j
        rw [z6, zr_2, if_neg (fun q => hr q.1), z4, zr_2, if_neg (fun q => hr q.1)]
      have cel : ∀ j : Nat, s6.2 e j = if j = 12 + i then x3 else if j = i then f0 else u.2 e j := fun j => by
        rw [z6, zr_2]
        by_cases q1 : j = 12 + i
        · rw [if_pos ⟨rfl, q1⟩, if_pos q1]
        · rw [if_neg (fun q => q1 q.2), if_neg q1, z4, zr_2]
          by_cases q2 : j = i
          · rw [if_pos ⟨rfl, q2⟩, if_pos q2]
          · rw [if_neg (fun q => q2 q.2), if_neg q2]
      have EN : ENzu U P s6 e t (eta X Y) (i + 1) := fun p hp => by
        by_cases ep : p = i
        · refine ⟨f0.toInt, ?_, ?_, by rw [ep]; exact ⟨k3.1, k3.2.1, k3.2.2, k4⟩, ?_⟩
          · rw [ep, KI_n, cel, if_neg (by omega), if_pos rfl]
          · rw [ep, show 12 + (i : Int) = ((12 + i : Nat) : Int) by omega, KI_n, cel, if_pos rfl]
            exact hx3
          · rw [ep]
            exact WDz_r (f2 _ heP.1) k2
        · obtain ⟨x, m1, m2, m3, m4⟩ := g5 p (by omega)
          refine ⟨x, ?_, ?_, m3, WDz_r (by rw [f2 _ heP.1, r18]) m4⟩
          · rw [KI_n, cel, if_neg (by omega), if_neg ep, ← KI_n]
            exact m1
          · rw [show 12 + (p : Int) = ((12 + p : Nat) : Int) by omega] at m2 ⊢
            rw [KI_n, cel, if_neg (by omega), if_neg (by omega), ← KI_n]
            exact m2
      have nxt : ∀ (q8 q9 c6' : Int32), ((i : Int) < cnt.toInt → c6'.toInt = at0.toInt + ((eta X Y i).length : Int)) → v_86_53 (fun j => Zt (d + 1 + 8) (wd P j) j) P e (fun c2' c3' c4' c5' c6' c7' u' => (c2' = c2 ∧ c3' = c3 ∧ c4' = c4 ∧ u'.1 = s.1 ∧ (∀ r, ¬ r = e → u'.2 r = s.2 r) ∧ ∃ i : Nat, i ≤ 12 ∧ c7'.toInt = (i : Int) ∧ ENzu U P u' e t (eta X Y) i ∧ (i ≤ 6 → c5'.toInt = (X.length : Int) ∧ (i ≤ X.length → c6'.toInt = c2.toInt + 1 + ((X.take i).flatten.length : Int))) ∧ (6 < i → c5'.toInt = 6 + (Y.length : Int) ∧ (i - 6 ≤ Y.length → c6'.toInt = c3.toInt + ((Y.take (i - 6)).flatten.length : Int)))) ∧ (12 - c7'.toInt).toNat < (12 - c7.toInt).toNat) c2 c3 c4 cnt at0 c7 q8 q9 c6' s6 (fun v s' => v = none ∧ s'.1 = s.1 ∧ (∀ r, ¬ r = e → s'.2 r = s.2 r) ∧ ENzu U P s' e t (eta X Y) 12) := by
        intro q8 q9 c6' hc6
        unfold v_86_53
        intro x7 hx7
        have ex7 := hx7 (by omega)
        obtain ⟨b4, b5⟩ := b3 c6' hc6
        exact ⟨⟨rfl, rfl, rfl, f1, f2, i + 1, by omega, by omega, EN, b4, b5⟩, by omega⟩
      refine ⟨fun y => nxt _ _ _ (fun h => absurd h (by omega)), fun y => nxt _ _ _ (fun h => ?_)⟩
      rw [hx3, k5 h]
    unfold v_86_26
    refine ⟨fun y => ?_, fun y => ?_⟩
    · have e0 := b2 (by omega)
      refine one c7 ?_ ?_ ⟨by omega, by omega, by rw [e0]; exact Or.inl (show c7.toInt + ((1 : Nat) : Int) ≤ t by omega)⟩ (by rw [e0]; show 1 ≤ 400; decide) (fun h => absurd h (by omega))
      · rw [e0]
        exact ⟨by decide, (h6 _).1, by show (1 : Int) + ar (24 + (i : Int)) - 1 = 0; rw [h24 _ (by omega)]; decide⟩
      · rw [e0, g4]
        intro j c hc
        cases j with
        | zero =>
          have ec : 24 + (i : Int) = c := by simpa using hc
          rw [← ec, show (i : Int) + ((0 : Nat) : Int) = (i : Int) by omega]
          exact hS i (by omega)
        | succ j => cases hc
    · obtain ⟨k1, k2, k3, k4⟩ := b1 (by omega)
      exact one at0 k1 k2 k3 k4 (fun _ => rfl)
  unfold v_86_14
  refine ⟨fun y => ⟨rfl, g1, g2, ?_⟩, fun y => ⟨fun y1 => ?_, fun y1 x1' hx1' => ?_⟩⟩
  · have : i = 12 := by omega
    rw [← this]
    exact g5
  · -- not the sixth
    rcases Nat.lt_or_ge i 6 with hi | hi
    · obtain ⟨p1, p2⟩ := g6 (by omega)
      refine body c5 c6 (by omega) (fun h => ?_) (fun h => ?_) (fun c6' hc6 => ⟨fun _ => ⟨p1, fun hle' => ?_⟩, fun h => by omega⟩)
      · have hil : i < X.length := by omega
        obtain ⟨z, hz⟩ : ∃ z, X[i]? = some z := ⟨_, List.getElem?_eq_getElem hil⟩
        have ez : eta X Y i = z := by
          unfold eta
          rw [if_pos hi, if_pos hil, List.getD_eq_getElem?_getD, hz]
          rfl
        have ep := p2 (by omega)
        have hl := fl_le X i
        have hl2 := fl_le X (i + 1)
        have hl3 := fl_take hz
        rw [ez, ep]
        exact ⟨hXr z (List.mem_of_getElem? hz), WDz_fl X i z _ hXw hz, ⟨by omega, by omega, APtu_in hXt (by omega) (by omega)⟩, by omega⟩
      · unfold eta
        rw [if_pos hi, if_neg (by omega)]
      · have hil : i < X.length := by omega
        obtain ⟨z, hz⟩ : ∃ z, X[i]? = some z := ⟨_, List.getElem?_eq_getElem hil⟩
        have ez : eta X Y i = z := by
          unfold eta
          rw [if_pos hi, if_pos hil, List.getD_eq_getElem?_getD, hz]
          rfl
        rw [hc6 (by omega), ez, p2 (by omega), fl_take hz]
        omega
    · obtain ⟨p1, p2⟩ := g7 (by omega)
      refine body c5 c6 (by omega) (fun h => ?_) (fun h => ?_) (fun c6' hc6 => ⟨fun h => by omega, fun _ => ⟨p1, fun hle' => ?_⟩⟩)
      · have hil : i - 6 < Y.length := by omega
        obtain ⟨z, hz⟩ : ∃ z, Y[i - 6]? = some z := ⟨_, List.getElem?_eq_getElem hil⟩
        have ez : eta X Y i = z := by
          unfold eta
          rw [if_neg (by omega), if_pos hil, List.getD_eq_getElem?_getD, hz]
          rfl
        have ep := p2 (by omega)
        have hl := fl_le Y (i - 6)
        have hl2 := fl_le Y (i - 6 + 1)
        have hl3 := fl_take hz
        have h3' := h3 (fun q => by rw [q] at hil; exact absurd hil (Nat.not_lt_zero _))
        have h3t := hYt (fun q => by rw [q] at hil; exact absurd hil (Nat.not_lt_zero _))
        rw [ez, ep]
        exact ⟨hYr z (List.mem_of_getElem? hz), WDz_fl Y (i - 6) z _ hYw hz, ⟨by omega, by omega, APtu_in h3t (by omega) (by omega)⟩, by omega⟩
      · unfold eta
        rw [if_neg (by omega), if_neg (by omega)]
      · have hil : i - 6 < Y.length := by omega
        obtain ⟨z, hz⟩ : ∃ z, Y[i - 6]? = some z := ⟨_, List.getElem?_eq_getElem hil⟩
        have ez : eta X Y i = z := by
          unfold eta
          rw [if_neg (by omega), if_pos hil, List.getD_eq_getElem?_getD, hz]
          rfl
        rw [hc6 (by omega), ez, p2 (by omega), show i + 1 - 6 = i - 6 + 1 by omega, fl_take hz]
        omega
  · have hi : i = 6 := by omega
    have ex1' := hx1' (by omega)
    refine body x1' c3 (by omega) (fun h => ?_) (fun h => ?_) (fun c6' hc6 => ⟨fun h => by omega, fun _ => ⟨by omega, fun hle' => ?_⟩⟩)
    · have hil : 0 < Y.length := by omega
      obtain ⟨z, hz⟩ : ∃ z, Y[0]? = some z := ⟨_, List.getElem?_eq_getElem hil⟩
      have ez : eta X Y i = z := by
        unfold eta
        rw [hi, if_neg (by omega), if_pos (by omega), List.getD_eq_getElem?_getD, show 6 - 6 = 0 by omega, hz]
        rfl
      have hl2 := fl_le Y 1
      have hl3 : ((Y.take 1).flatten.length : Int) = ((Y.take 0).flatten.length : Int) + (z.length : Int) := fl_take hz
      have h3' := h3 (fun q => by rw [q] at hil; exact absurd hil (Nat.not_lt_zero _))
      have h3t := hYt (fun q => by rw [q] at hil; exact absurd hil (Nat.not_lt_zero _))
      have hw := WDz_fl Y 0 z _ hYw hz
      rw [List.take_zero, show c3.toInt + ((([] : List (List Int)).flatten.length : Nat) : Int) = c3.toInt by show c3.toInt + ((0 : Nat) : Int) = _; omega] at hw
      rw [ez]
      rw [List.take_zero] at hl3
      have : (([] : List (List Int)).flatten.length : Int) = 0 := rfl
      exact ⟨hYr z (List.mem_of_getElem? hz), hw, ⟨by omega, by omega, APtu_in h3t (by omega) (by omega)⟩, by omega⟩
    · unfold eta
      rw [hi, if_neg (by omega), if_neg (by omega)]
    · have hil : 0 < Y.length := by omega
      obtain ⟨z, hz⟩ : ∃ z, Y[0]? = some z := ⟨_, List.getElem?_eq_getElem hil⟩
      have ez : eta X Y i = z := by
        unfold eta
        rw [hi, if_neg (by omega), if_pos (by omega), List.getD_eq_getElem?_getD, show 6 - 6 = 0 by omega, hz]
        rfl
      rw [hc6 (by omega), ez, hi, show 6 + 1 - 6 = 0 + 1 by omega, fl_take hz, List.take_zero]
      show c3.toInt + (z.length : Int) = c3.toInt + (((0 : Nat) : Int) + (z.length : Int))
      omega
end QU1
theorem ENzu_q {U t : Int} {P e m : Nat} {s : zS} {η : Nat → List Int} (h : ENzu U P s e t η m) : ENzq P s e t η m := fun p hp => by
  obtain ⟨x, h1, h2, ⟨h3, h4, h5, h6⟩, h7⟩ := h p hp
  refine ⟨x, h1, h2, ⟨h3, h4, ?_, h6⟩, h7⟩
  rcases h5 with q | q
  · exact Or.inl q
  · exact Or.inr q.1
