/-! ===== the class: alike ===== -/
/-- TYPES of two HEADS, one by one: n FORMALS are still to come; b: their VARS are not as many -/
def alkL (η θ : Nat → List Int) (b : Bool) : Nat → List (List Int) → List (List Int) → Int
  | n, x :: X, y :: Y => if n = 0 ∧ b = true then 7 else if 60 < (sbs η x).length ∨ 60 < (sbs θ y).length then 9 else if sbs η x = sbs θ y then alkL η θ b (n - 1) X Y else 7
  | _, _, _ => 0
/-- slots from b on have these TYPES -/
def SSz (ar : Int → Int) (P : Nat) (s : zS) (b : Int) (X : List (List Int)) : Prop := ∀ (j : Nat) (A : List Int), X[j]? = some A → (18738 ≤ slc s P (b + (j : Int)) 3 ∧ slc s P (b + (j : Int)) 3 ≤ 82938) ∧ WDz P s (slc s P (b + (j : Int)) 3) A ∧ isR ar 1 A ∧ A.length ≤ 60 ∧ ∀ c ∈ A, 0 ≤ c ∧ c < 36
section YAL
variable {ar : Int → Int} {P d e : Nat} {s s' u v w : zS} {a1 a2 : Int32} {A B : List Int} {X Y : List (List Int)} {η θ : Nat → List Int} {t t' b b' : Int} {nf nv nf' nv' : Nat}
theorem PFz_rs (h : PFz P t u w) : (zf w 75 3 (u.1 75 3)).1 = u.1 ∧ PFz P t u (zf w 75 3 (u.1 75 3)) := by
  have e1 : (zf w 75 3 (u.1 75 3)).1 = u.1 := by
    funext c k
    rw [zf_1]
    by_cases q : c = 75 ∧ k = 3
    · rw [if_pos q, q.1, q.2]
    · rw [if_neg q]
      exact h.2.2 c k q
  exact ⟨e1, h.1, h.2.1, fun c k _ => by rw [e1]⟩
theorem PFz_tr (h : PFz P t s u) (ht : t ≤ t') (g : PFz P t' u w) : PFz P t s w := by
  refine ⟨fun r hr => by rw [g.1 r hr, h.1 r hr], fun j hj => ?_, fun c k hck => by rw [g.2.2 c k hck, h.2.2 c k hck]⟩
  have h1 : w.2 (P + 18) j = u.2 (P + 18) j := g.2.1 j (by
    rcases hj with q | q
    · exact Or.inl (by omega)
    · exact Or.inr q)
  rw [h1, h.2.1 j hj]
theorem APt_mo {x : Int} {n : Nat} (ht : t ≤ t') (h : APt t x n) : APt t' x n := by
  rcases h with q | q
  · exact Or.inl (by omega)
  · exact Or.inr q
theorem ENz_pf {m : Nat} (h : PFz P t s u) (ht : t ≤ t') (he : ¬ e = P + 18) (g : ENz P s e t η m) : ENz P u e t' η m := fun p hp => by
  obtain ⟨x, g1, g2, g3, g4⟩ := g p hp
  exact ⟨x, by rw [h.1 _ he]; exact g1, by rw [h.1 _ he]; exact g2, ⟨g3.1, g3.2.1, APt_mo ht g3.2.2.1, g3.2.2.2⟩, WDz_pf h g3.1 g3.2.2.1 g4⟩
theorem SSz_pf (h : PFz P t s u) (g : SSz ar P s b X) : SSz ar P u b X := fun j A hA => by
  have e1 : slc u P (b + (j : Int)) 3 = slc s P (b + (j : Int)) 3 := by
    unfold slc
    rw [h.1 _ (by omega)]
  obtain ⟨g1, g2, g3⟩ := g j A hA
  rw [e1]
  exact ⟨g1, WDz_pf h (by omega) (Or.inr g1.1) g2, g3⟩
theorem sbs_R : ∀ (A : List Int) (k : Int), isR ar k A → (∀ c ∈ A, 24 ≤ c → ar c = 0 ∧ isR ar 1 (η (c - 24).toNat)) → isR ar k (sbs η A)
  | [], k, h, _ => h
  | c :: l, k, h, g => by
    obtain ⟨h1, h2, h3⟩ := h
    have ih := sbs_R l _ h3 (fun c' hc' => g c' (List.mem_cons_of_mem _ hc'))
    show isR ar k ((if c < 24 then [c] else η (c - 24).toNat) ++ sbs η l)
    by_cases hc : c < 24
    · rw [if_pos hc]
      exact ⟨h1, h2, ih⟩
    · rw [if_neg hc]
      obtain ⟨q1, q2⟩ := g c List.mem_cons_self (by omega)
      rw [q1] at ih
      have := isR_app (η (c - 24).toNat) (sbs η l) 1 (k + 0 - 1) (by omega) q2 ih
      rw [show (1 : Int) + (k + 0 - 1) = k by omega] at this
      exact this
theorem drop_at {α : Type} {l : List α} {i : Nat} {a : α} (h : l[i]? = some a) : l.drop i = a :: l.drop (i + 1) := by
  obtain ⟨h1, h2⟩ := List.getElem?_eq_some_iff.mp h
  rw [← h2]
  exact List.drop_eq_getElem_cons h1
set_option maxHeartbeats 2000000 in
/-- alike: a1 is theirs, a2 mine -/
theorem zs_89 (hP : P = 3 ∨ P = 39) (hA : KI (s.2 (P + 22)) = ar) (h6 : ∀ c, 0 ≤ ar c ∧ ar c ≤ 7) (h24 : ∀ c, 24 ≤ c → ar c = 0) (ht : (s.1 75 3).toInt = t) (ht2 : 18 ≤ t ∧ t + 120 ≤ 18738) (hE : ENz P s 80 t η 12) (hF : ENz P s 78 t θ 12) (hEr : ∀ p, p < 12 → isR ar 1 (η p)) (hFr : ∀ p, p < 12 → isR ar 1 (θ p)) (h1 : 0 ≤ a1.toInt ∧ a1.toInt ≤ 5000) (h2 : 0 ≤ a2.toInt ∧ a2.toInt ≤ 5000) (n1 : sgc s P a1.toInt 3 = (nf : Int) ∧ sgc s P a1.toInt 4 = (nv : Int) ∧ sgc s P a1.toInt 2 = b) (n2 : sgc s P a2.toInt 3 = (nf' : Int) ∧ sgc s P a2.toInt 4 = (nv' : Int) ∧ sgc s P a2.toInt 2 = b') (hn : nf ≤ 6 ∧ nv ≤ 6) (hb : 0 ≤ b ∧ b ≤ 4000) (hb' : 0 ≤ b' ∧ b' ≤ 4000) (hX : SSz ar P s b X) (hXl : X.length = nf + nv + 1) (hY : SSz ar P s b' Y) (hYl : Y.length = nf' + nv' + 1) : Zt (d + 10) (wd P 89) 89 [.ref 75, .int a1, .int a2] s (fun v s' => (s'.1 = s.1 ∧ PFz P t s s') ∧ ∃ r : Int32, v = some (.int r) ∧ r.toInt = if nf = nf' then alkL η θ (decide (¬ nv = nv')) nf X Y else 7) := by
  have hne : ¬ (80 : Nat) = P + 18 ∧ ¬ (78 : Nat) = P + 18 ∧ ¬ P + 22 = P + 18 ∧ ¬ P + 28 = P + 18 ∧ ¬ P + 30 = P + 18 := by rcases hP with rfl | rfl <;> decide
  have m1 := zg_sg (s := s) (P := P) (c := 3) (k := 3) (by decide) (by decide) h1
  have m2 := zg_sg (s := s) (P := P) (c := 4) (k := 4) (by decide) (by decide) h1
  have m3 := zg_sg (s := s) (P := P) (c := 2) (k := 2) (by decide) (by decide) h1
  have m4 := zg_sg (s := s) (P := P) (c := 3) (k := 3) (by decide) (by decide) h2
  have m6 := zg_sg (s := s) (P := P) (c := 2) (k := 2) (by decide) (by decide) h2
  have hcE : ∀ (η : Nat → List Int), (∀ p, p < 12 → isR ar 1 (η p)) → ∀ A : List Int, (∀ c ∈ A, 0 ≤ c ∧ c < 36) → isR ar 1 A → isR ar 1 (sbs η A) := fun η hη A hA' hR => sbs_R A 1 hR (fun c hc' hc24 => ⟨h24 c hc24, hη _ (by have := hA' c hc'; omega)⟩)
  refine zc_89 (d := d + 1) hP ?_
  unfold v_89_0
  refine ⟨fun y => ?_, fun y => ⟨⟨rfl, fun _ _ => rfl, fun _ _ => rfl, fun _ _ _ => rfl⟩, 7, rfl, by rw [if_neg (by omega)]; decide⟩⟩
  have hff : nf = nf' := by omega
  rw [if_pos hff]
  obtain ⟨V, hV⟩ : ∃ V, alkL η θ (decide (¬ nv = nv')) nf X Y = V := ⟨_, rfl⟩
  rw [hV]
  refine ⟨fun c1 c2 c3 c4 c5 c6 c7 u => c1 = a1 ∧ c2 = a2 ∧ c3.toInt = (nf : Int) ∧ c4.toInt = (nv : Int) ∧ c5.toInt = b ∧ c6.toInt = b' ∧ u.1 = s.1 ∧ PFz P t s u ∧ ∃ i : Nat, c7.toInt = (i : Int) ∧ i ≤ nf + nv + 1 ∧ (nf < i → nv = nv') ∧ V = alkL η θ (decide (¬ nv = nv')) (nf - i) (X.drop i) (Y.drop i), fun _ _ _ _ _ _ c7 _ => (14 - c7.toInt).toNat, ⟨rfl, rfl, by omega, by omega, by omega, by omega, rfl, ⟨fun _ _ => rfl, fun _ _ => rfl, fun _ _ _ => rfl⟩, 0, by decide, by omega, fun h => absurd h (Nat.not_lt_zero _), hV.symm⟩, ?_⟩
  rintro c1 c2 c3 c4 c5 c6 c7 u ⟨e1, e2, e3, e4, e5, e6, f1, f2, i, g1, g2, g3, g4⟩
  subst e1 e2
  have m5 : (zg u (P + 28) (c2 * 5 + 4)).toInt = (nv' : Int) := by
    rw [zg_sg (s := u) (P := P) (c := 4) (k := 4) (by decide) (by decide) h2]
    unfold sgc
    rw [f2.1 _ hne.2.2.2.1]
    exact n2.2.1
  have main : i ≤ nf + nv → (nf ≤ i → nv = nv') → v_89_52 (fun j => Zt (d + 1 + 8) (wd P j) j) P (fun a1' a2' a3' a4' a5' a6' a7' s' => (a1' = c1 ∧ a2' = c2 ∧ a3'.toInt = (nf : Int) ∧ a4'.toInt = (nv : Int) ∧ a5'.toInt = b ∧ a6'.toInt = b' ∧ s'.1 = s.1 ∧ PFz P t s s' ∧ ∃ i : Nat, a7'.toInt = (i : Int) ∧ i ≤ nf + nv + 1 ∧ (nf < i → nv = nv') ∧ V = alkL η θ (decide (¬ nv = nv')) (nf - i) (X.drop i) (Y.drop i)) ∧ (14 - a7'.toInt).toNat < (14 - c7.toInt).toNat) c1 c2 c3 c4 c5 c6 c7 u (fun v s' => (s'.1 = s.1 ∧ PFz P t s s') ∧ ∃ r : Int32, v = some (.int r) ∧ r.toInt = V) := by
    intro hi hv
    obtain ⟨x, hx⟩ : ∃ x, X[i]? = some x := ⟨_, List.getElem?_eq_getElem (by omega)⟩
    obtain ⟨y', hy⟩ : ∃ y', Y[i]? = some y' := ⟨_, List.getElem?_eq_getElem (by
      rcases Nat.lt_or_ge i nf with q | q
      · omega
      · have := hv q
        omega)⟩
    have val : alkL η θ (decide (¬ nv = nv')) (nf - i) (X.drop i) (Y.drop i) = if 60 < (sbs η x).length ∨ 60 < (sbs θ y').length then 9 else if sbs η x = sbs θ y' then alkL η θ (decide (¬ nv = nv')) (nf - (i + 1)) (X.drop (i + 1)) (Y.drop (i + 1)) else 7 := by
      rw [drop_at hx, drop_at hy]
      show (if nf - i = 0 ∧ decide (¬ nv = nv') = true then (7 : Int) else _) = _
      rw [if_neg (fun q : nf - i = 0 ∧ decide (¬ nv = nv') = true => (of_decide_eq_true q.2) (hv (by have := q.1; omega))), Nat.sub_sub]
    obtain ⟨p1, p2, p3, p4, p5⟩ := SSz_pf f2 hX i x hx
    unfold v_89_52
    intro x1 hx1
    have ex1 := hx1 (by omega)
    have es1 : (zg u (P + 30) (x1 * 5 + 3)).toInt = slc u P (b + (i : Int)) 3 := by
      rw [zg_sl (s := u) (P := P) (c := 3) (k := 3) (by decide) (by decide) (by omega)]
      rw [ex1, e5, g1]
    refine Zt.imp (Zt.mo (d := 9) (by omega) (zs_87 (d := 0) (A := x) (ar := ar) (t := t) (η := η) hP (Or.inr (Or.inr rfl)) (by rw [f2.1 _ hne.2.2.1]; exact hA) h6 (by rw [f1]; exact ht) (by omega) (ENz_pf f2 (Int.le_refl _) hne.1 hE) p3 p4 p5 (by omega) (by rw [es1]; exact p2) (Or.inr (by omega)))) ?_
    rintro v3 s4 ⟨k1, x5, rfl, k2⟩
    refine ⟨x5, rfl, fun y5 x6 hx6 => ?_, fun y5 => ?_⟩
    · -- theirs is not too great
      obtain ⟨k3, k4, k5⟩ : (sbs η x).length ≤ 60 ∧ WDz P s4 x5.toInt (sbs η x) ∧ ((x5 = zg u (P + 30) (x1 * 5 + 3) ∧ s4.1 = u.1 ∧ (∀ c ∈ x, c < 24)) ∨ (x5.toInt = t ∧ (s4.1 75 3).toInt = t + ((sbs η x).length : Int))) := by
        rcases k2 with ⟨-, q, -⟩ | q
        · omega
        · exact q
      have ex6 := hx6 (by omega)
      obtain ⟨T4, hT4⟩ : ∃ T4, (s4.1 75 3).toInt = T4 := ⟨_, rfl⟩
      have hTt : t ≤ T4 ∧ T4 ≤ t + 60 := by
        rcases k5 with ⟨-, q, -⟩ | ⟨-, q⟩
        · rw [q, f1, ht] at hT4
          omega
        · omega
      have hap5 : APt T4 x5.toInt (sbs η x).length ∧ 0 ≤ x5.toInt ∧ x5.toInt ≤ 82938 := by
        rcases k5 with ⟨q, -, -⟩ | ⟨q1, q2⟩
        · rw [q, es1]
          exact ⟨Or.inr p1.1, by omega, by omega⟩
        · exact ⟨Or.inl (by omega), by omega, by omega⟩
      have f4 : PFz P t s s4 := PFz_tr f2 (Int.le_refl _) k1
      obtain ⟨q1, q2, q3, q4, q5⟩ := SSz_pf f4 hY i y' hy
      have es2 : (zg s4 (P + 30) (x6 * 5 + 3)).toInt = slc s4 P (b' + (i : Int)) 3 := by
        rw [zg_sl (s := s4) (P := P) (c := 3) (k := 3) (by decide) (by decide) (by omega)]
        rw [ex6, e6, g1]
      refine Zt.imp (Zt.mo (d := 9) (by omega) (zs_87 (d := 0) (A := y') (ar := ar) (t := T4) (η := θ) hP (Or.inr (Or.inl rfl)) (by rw [f4.1 _ hne.2.2.1]; exact hA) h6 hT4 (by omega) (ENz_pf f4 hTt.1 hne.2.1 hF) q3 q4 q5 (by omega) (by rw [es2]; exact q2) (Or.inr (by omega)))) ?_
      rintro v8 s9 ⟨l1, x10, rfl, l2⟩
      refine ⟨x10, rfl, ?_⟩
      unfold v_89_82
      intro s11 hs11
      obtain ⟨r1, r2⟩ := PFz_rs (PFz_tr k1 hTt.1 l1)
      rw [← hs11] at r1 r2
      have fr : s11.1 = s.1 ∧ PFz P t s s11 := ⟨by rw [r1, f1], PFz_tr f2 (Int.le_refl _) r2⟩
      have e22 : s11.2 = s9.2 := by rw [hs11, zf_2]
      refine ⟨fun y10 => ?_, fun y10 => ⟨fr, 9, rfl, ?_⟩⟩
      · obtain ⟨l3, l4, l5⟩ : (sbs θ y').length ≤ 60 ∧ WDz P s9 x10.toInt (sbs θ y') ∧ ((x10 = zg s4 (P + 30) (x6 * 5 + 3) ∧ s9.1 = s4.1 ∧ (∀ c ∈ y', c < 24)) ∨ (x10.toInt = T4 ∧ (s9.1 75 3).toInt = T4 + ((sbs θ y').length : Int))) := by
          rcases l2 with ⟨-, q, -⟩ | q
          · omega
          · exact q
        have h10 : x10.toInt ≤ 82938 := by
          rcases l5 with ⟨q, -, -⟩ | ⟨q, -⟩
          · rw [q, es2]
            exact q1.2
          · omega
        have w5 : WDz P s11 x5.toInt (sbs η x) := by
          intro j c hj
          rw [e22]
          exact WDz_pf l1 hap5.2.1 hap5.1 k4 j c hj
        have w10 : WDz P s11 x10.toInt (sbs θ y') := by
          intro j c hj
          rw [e22]
          exact l4 j c hj
        refine Zt.imp (Zt.mo (d := 9) (by omega) (zs_84 (d := 0) (ar := ar) (A := sbs η x) (B := sbs θ y') hP (by rw [fr.2.1 _ hne.2.2.1]; exact hA) h6 (hcE η hEr x p5 p3) (hcE θ hFr y' q5 q3) k3 (by omega) (by omega) w5 w10)) ?_
        rintro v12 s13 ⟨hs13, x14, rfl, hr⟩
        subst hs13
        refine ⟨x14, rfl, fun y14 x15 hx15 => ?_, fun y14 => ⟨fr, 7, rfl, ?_⟩⟩
        · have hs : sbs η x = sbs θ y' := by
            rcases hr with q | q
            · exact q.2
            · exact absurd q.1 y14
          have ex15 := hx15 (by omega)
          refine ⟨⟨rfl, rfl, e3, e4, e5, e6, fr.1, fr.2, i + 1, by omega, by omega, fun h => hv (by omega), ?_⟩, by omega⟩
          rw [g4, val, if_neg (by omega), if_pos hs]
        · have hs : ¬ sbs η x = sbs θ y' := by
            rcases hr with q | q
            · omega
            · exact q.2
          rw [g4, val, if_neg (by omega), if_neg hs]
          decide
      · have hg : 60 < (sbs θ y').length := by
          rcases l2 with ⟨q, -, -⟩ | ⟨-, -, q⟩
          · exact q
          · rcases q with ⟨q, -, -⟩ | ⟨q, -⟩
            · rw [q, es2] at y10
              omega
            · omega
        rw [g4, val, if_pos (Or.inr hg)]
        decide
    · -- theirs is too great
      have hg : 60 < (sbs η x).length := by
        rcases k2 with ⟨q, -, -⟩ | ⟨-, -, q⟩
        · exact q
        · rcases q with ⟨q, -, -⟩ | ⟨q, -⟩
          · rw [q, es1] at y5
            omega
          · omega
      unfold v_89_82
      intro s11 hs11
      obtain ⟨r1, r2⟩ := PFz_rs k1
      rw [← hs11] at r1 r2
      refine ⟨fun y10 => absurd y10 (by decide), fun y10 => ⟨⟨by rw [r1, f1], PFz_tr f2 (Int.le_refl _) r2⟩, 9, rfl, ?_⟩⟩
      rw [g4, val, if_pos (Or.inl hg)]
      decide
  unfold v_89_35
  intro x1 hx1
  have ex1 := hx1 (by omega)
  refine ⟨fun y1 => ⟨⟨f1, f2⟩, 0, rfl, ?_⟩, fun y1 => ⟨fun y2 => main (by omega) (fun h => g3 (by omega)), fun y2 => ⟨fun y3 => main (by omega) (fun h => by omega), fun y3 => ⟨⟨f1, f2⟩, 7, rfl, ?_⟩⟩⟩⟩
  · rw [g4, List.drop_eq_nil_of_le (by omega)]
    show (0 : Int32).toInt = alkL η θ _ _ [] _
    unfold alkL
    decide
  · obtain ⟨x, hx⟩ : ∃ x, X[i]? = some x := ⟨_, List.getElem?_eq_getElem (by omega)⟩
    obtain ⟨y', hy⟩ : ∃ y', Y[i]? = some y' := ⟨_, List.getElem?_eq_getElem (by omega)⟩
    rw [g4, drop_at hx, drop_at hy]
    show (7 : Int32).toInt = if nf - i = 0 ∧ decide (¬ nv = nv') = true then (7 : Int) else _
    rw [if_pos ⟨by omega, decide_eq_true (by omega)⟩]
    decide
end YAL
