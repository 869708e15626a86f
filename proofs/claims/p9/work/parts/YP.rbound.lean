/-! ===== the reference: bound ===== -/
/-- the scope: codes of its PARAMS begin at β0 and β1, nX and nY of them; their BOUNDS bn -/
def SPe (ar : Int → Int) (cf : Nat → Int) (F H : Nat) (nT : Int) (hd : Nat → Nat × Nat × List (List Int)) (hb ow : Nat → Int) (Bf : Int → List (List Int)) (β0 β1 nX nY : Int) (bn : Int → List Int) : Prop := bOK β0 β1 ∧ (nX = 0 ∨ ∃ c : Int, (0 ≤ c ∧ c < nT) ∧ nX = ar c ∧ (∀ k : Nat, (k : Int) < ar c → bn (24 + (k : Int)) = (Bf c).getD k []) ∧ (β0 = 1000 + 6 * c ∨ ∃ f : Nat, f < F ∧ cf f = c ∧ β0 = 4000 + 6 * (f : Int))) ∧ (nY = 0 ∨ ∃ h : Nat, h < H ∧ nY = ((hd h).1 : Int) ∧ β1 = 2000 + 6 * (h : Int) ∧ hb h = β0 ∧ ar (ow h) = nX ∧ ∀ k : Nat, k < (hd h).1 → bn (30 + (k : Int)) = (hd h).2.2.getD k [])
def BDq (T e : Int) (E : List Int) (s : yS) (v : Option Value) (s' : yS) : Prop := v = none ∧ WFr T e s s' ∧ (s'.1 8 = s.1 8 ∧ (s'.1 70).toInt = e ∧ s'.1 73 = s.1 73 ∧ s'.1 74 = s.1 74) ∧ ∃ p : Int, (s'.1 71).toInt = p ∧ T ≤ p ∧ (s'.1 72).toInt = (E.length : Int) ∧ (s'.1 64).toInt = p + (E.length : Int) ∧ RWel s' p E
section YPB
variable {ar kd : Int → Int} {cf : Nat → Int} {fs : Nat → Nat} {F H d e : Nat} {nT : Int} {tm tn : Int → Nat} {hd : Nat → Nat × Nat × List (List Int)} {hb ow hw : Nat → Int} {Bf : Int → List (List Int)} {b A T T' ca β0 β1 nX nY e1 : Int} {s s' u : yS} {a1 a2 a3 : Int32} {bn : Int → List Int} {E : List Int} {c0 c1 : Int} {X : List (List Int)}
theorem WFr_sa {q j : Nat} {v : Int32} (h : (q = 264 ∧ T ≤ (j : Int)) ∨ ((q = 265 ∨ q = 266) ∧ 2 * e1 ≤ (j : Int)) ∨ ((q = 267 ∨ q = 268) ∧ 12 * e1 ≤ (j : Int))) : WFr T e1 s (sa s q j v) := by
  refine ⟨fun k _ _ _ _ _ _ _ => rfl, rfl, fun q' j' w => ?_, fun j' w => ?_, fun q' j' w1 w2 => ?_, fun q' j' w1 w2 => ?_⟩
  · rw [sa_21, if_neg (fun z => by omega)]
  · rw [sa_21, if_neg (fun z => by omega)]
  · rw [sa_21, if_neg (fun z => by omega)]
  · rw [sa_21, if_neg (fun z => by omega)]
theorem rpt_c1 {c1' x : Int} : rpt c0 X c1 [] x = rpt c0 X c1' [] x := by
  have n1 : ¬ (0 ≤ x / 8 - c1 ∧ x / 8 - c1 < (([] : List (List Int)).length : Int)) := fun q => by
    have := q.2
    rw [List.length_nil] at this
    omega
  have n2 : ¬ (0 ≤ x / 8 - c1' ∧ x / 8 - c1' < (([] : List (List Int)).length : Int)) := fun q => by
    have := q.2
    rw [List.length_nil] at this
    omega
  unfold rpt
  rw [if_neg n1, if_neg n2]
theorem sbs_id {η : Nat → List Int} : ∀ A : List Int, (∀ c ∈ A, 24 ≤ c → η (c - 24).toNat = [c]) → sbs η A = A
  | [], _ => rfl
  | c :: A, h => by
    show (if c < 24 then [c] else η (c - 24).toNat) ++ sbs η A = c :: A
    rw [sbs_id A (fun c hc => h c (List.mem_cons_of_mem _ hc))]
    by_cases h1 : c < 24
    · rw [if_pos h1]
      rfl
    · rw [if_neg h1, h c List.mem_cons_self (by omega)]
      rfl
/-- the last of bound: put by env e -/
theorem bd_147 (hS : WFr T (e : Int) s u) (h8 : u.1 8 = s.1 8 ∧ u.1 73 = s.1 73 ∧ u.1 74 = s.1 74) (h70 : (u.1 70).toInt = (e : Int) + 1) (h64 : (u.1 64).toInt = T') (hTT : T ≤ T') (hA : A ≤ T) (h2 : a2.toInt = (e : Int)) (hn : RSe u A a3.toInt E) (hE : EVr u e T' c0 X c1 []) (hX6 : X.length ≤ 6) {R : List Int} (hR : E.flatMap (rpt c0 X c1 []) = R) (hl : R.length ≤ 60) : ub_194_147 (Par d) a1 a2 a3 u (BDq T (e : Int) R s) := by
  obtain ⟨y1, y2, y3, y4⟩ := hn
  unfold ub_194_147
  intro _ _
  have P1 := x_191 (d := d) (E := E) h64 hE h2 y3 ⟨y2.1, by omega⟩ y4
  rw [hR] at P1
  refine Par.imp P1 ?_
  rintro v2 s1 ⟨p1, x3, rfl, hc⟩
  refine ⟨x3, rfl, fun _ x4 hx4 s5 hs5 => ?_⟩
  rcases hc with ⟨-, q, -⟩ | ⟨-, l1, p71, p72, p64, pk, pw⟩
  · omega
  have e70 : s1.1 70 = u.1 70 := pk 70 (by decide) (by decide) (by decide)
  have W1 : WFr T (e : Int) s s1 := WFr_tr hS (WFr_pk p1 pk) hTT (Int.le_refl _)
  have f5 : ∀ k, ¬ k = 70 → s5.1 k = s1.1 k := fun k hk => by rw [hs5, sfr_1, if_neg hk]
  have r5 : s5.2 = s1.2 := by rw [hs5, sfr_2]
  refine ⟨rfl, WFr_tr W1 (by rw [hs5]; exact WFr_sf (Or.inr (Or.inr ⟨by decide, by decide⟩))) (Int.le_refl _) (Int.le_refl _), ⟨?_, ?_, ?_, ?_⟩, T', ?_, hTT, ?_, ?_, fun i c hc => ?_⟩
  · rw [f5 8 (by decide), pk 8 (by decide) (by decide) (by decide)]
    exact h8.1
  · rw [hs5, sfr_1, if_pos rfl]
    rw [e70] at hx4
    omega
  · rw [f5 73 (by decide), pk 73 (by decide) (by decide) (by decide)]
    exact h8.2.1
  · rw [f5 74 (by decide), pk 74 (by decide) (by decide) (by decide)]
    exact h8.2.2
  · rw [f5 71 (by decide)]
    exact p71
  · rw [f5 72 (by decide)]
    exact p72
  · rw [f5 64 (by decide)]
    exact p64
  · rw [r5]
    exact pw i c hc
/-- a new env -/
theorem nw_188 (he : (s.1 70).toInt = (e : Int)) : Par d 188 [.ref 213] s (fun v s' => ∃ r : Int32, v = some (.int r) ∧ r.toInt = (e : Int) ∧ (s'.1 70).toInt = (e : Int) + 1 ∧ (∀ k, ¬ k = 70 → s'.1 k = s.1 k) ∧ (∀ T : Int, WFr T (e : Int) s s') ∧ (∀ q j, ¬ q = 266 → s'.2.1 q j = s.2.1 q j) ∧ (s'.2.1 266 (2 * e)).toInt = 0 ∧ (s'.2.1 266 (2 * e + 1)).toInt = 0) := by
  refine Par.imp x_188 ?_
  rintro v s1 ⟨r, rfl, h1, h2, h3, h4, h5, h6⟩
  refine ⟨r, rfl, by omega, by omega, h3, fun T => ⟨fun k _ _ w3 _ _ _ _ => h3 k w3, h4, fun q j w => h5 q j (by omega), fun j _ => h5 264 j (by decide), fun q j w1 w2 => ?_, fun q j w1 w2 => h5 q j (by omega)⟩, h5, ?_, ?_⟩
  · rcases w1 with rfl | rfl
    · exact h5 265 j (by decide)
    · rw [h6, if_neg (by omega)]
  · rw [h6, if_pos (Or.inl (by omega))]
    decide
  · rw [h6, if_pos (Or.inr (by omega))]
    decide
theorem EVr_nil (h1 : (s.2.1 266 (2 * e)).toInt = 0) (h2 : (s.2.1 266 (2 * e + 1)).toInt = 0) : EVr s e T (s.2.1 265 (2 * e)).toInt [] (s.2.1 265 (2 * e + 1)).toInt [] := ⟨⟨rfl, h1, fun i Y hi => absurd hi (Nat.not_lt_zero _)⟩, rfl, h2, fun i Y hi => absurd hi (Nat.not_lt_zero _)⟩
end YPB
