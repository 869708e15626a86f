/-! ===== instances ===== -/
def nK : List Nat := [0, 64, 70, 71, 72, 73, 74, 76, 77, 78, 109, 110, 111, 112, 118]
section IN
variable {own : Nat → Nat × Nat} {b n N T F H S0 : Nat} {G : PG} {S O : Nat} {s : yS}
theorem RW_RLk {R M : Nat} (h : RW G R M s) : RLk s := by
  obtain ⟨w1, w2, w3, w4, w5, w6, w7⟩ := h
  refine ⟨R, w1, w2, fun i hi => ?_⟩
  obtain ⟨p, l, m, k1, k2, k3, k4, k5, k6, -⟩ := w7 i hi
  exact ⟨p, l, k1, k2, by omega⟩
/-- what the loops keep -/
def IL (own : Nat → Nat × Nat) (b n N T F H S0 : Nat) (G : PG) (S : Nat) (s : yS) (R : Nat) (f : yS) : Prop := JF nK 0 20000 100000 0 s f ∧ ∃ M : Nat, IWm own b n N T F H S0 G S R M 100000 f ∧ (f.1 70).toInt = 1
theorem IL_sf {R : Nat} {f : yS} {x : Int32} (h : IL own b n N T F H S0 G S s R f) (hx : x.toInt = 100000) : IL own b n N T F H S0 G S s R (sf f 64 x) := by
  obtain ⟨hJ, M, ⟨c1, c2, c3, c4, c5, c6⟩, h70⟩ := h
  have J2 : JF nK 0 20000 100000 0 s (sf f 64 x) := JF_sf hJ (by decide)
  refine ⟨J2, M, ⟨?_, RW_eq (s := f) c2 rfl rfl c2.2.2.2.2.2.1 (fun _ _ _ => rfl), hx, c4, c5, c6⟩, h70⟩
  exact JF_CK c1 (JF_sf (ks := [64]) (R := 0) (M := 20000) (P := 100000) (E := 0) (JF_rf hJ.2.2.2.1 hJ.2.2.2.2) (by decide)) (by decide) (Nat.le_refl _) (Nat.le_refl _)
theorem in75 {d R0 R w0 : Nat} {a1 a2 a3 : Int32} {f : yS} {R54 : Int32 → Int32 → yS → Prop} {R66 : Int32 → Int32 → Int32 → yS → Prop} {Φ : Option Value → yS → Prop} (ih : AEH own b n N T F H S0 G S O 11 d) (hd : 5 ≤ d) (hPT : PT b n N F H G S O s) (hN : N ≤ 12006) (hO : O ≤ 120000) (hI : IL own b n N T F H S0 G S s R f) (hw : w0 ≤ R) (i : Nat) (h3 : a3.toInt = (i : Int)) (hi : i < R) (hΦ : ∀ (R' : Nat) (g : yS), IL own b n N T F H S0 G S s R' g → R ≤ R' → ∀ x : Int32, x.toInt = (i : Int) + 1 → R66 a1 a2 x g) : wl_257_75 (Tot (d + 1)) R54 R66 a1 a2 a3 0 f Φ := by
  refine ⟨fun z1 z2 z3 z4 g => z1 = a1 ∧ z2 = a2 ∧ z3 = a3 ∧ ∃ R' j : Nat, IL own b n N T F H S0 G S s R' g ∧ R ≤ R' ∧ z4.toInt = (j : Int) ∧ j ≤ R', fun _ _ _ z4 _ => (200 - z4.toInt).toNat, ⟨rfl, rfl, rfl, R, 0, hI, Nat.le_refl _, rfl, by omega⟩, ?_⟩
  rintro z1 z2 z3 z4 g ⟨e1, e2, e3, R', j, gI, j1, j2, j3⟩
  have e1 := e1.symm
  have e2 := e2.symm
  have e3 := e3.symm
  subst e1 e2 e3
  obtain ⟨gJ, M, gW, g70⟩ := id gI
  obtain ⟨c1, c2, c3, c4, c5, c6⟩ := id gW
  obtain ⟨M92, M20⟩ := RW_M c2
  obtain ⟨o1, o2, o3, o4, o5, o6, o7⟩ := id c2
  have out : w_257_116 (Tot (d + 1)) R54 R66 a1 a2 a3 z4 g Φ := by
    unfold w_257_116
    exact ⟨by omega, fun x hx => hΦ R' g gI j1 x (by omega)⟩
  have nxt : ∀ (R2 : Nat) (g2 : yS), IL own b n N T F H S0 G S s R2 g2 → R' ≤ R2 → j < R' → w_257_114 (Tot (d + 1)) R54 R66 (fun a1' a2' a3' a4' s' => (a1' = a1 ∧ a2' = a2 ∧ a3' = a3 ∧ ∃ R' j : Nat, IL own b n N T F H S0 G S s R' s' ∧ R ≤ R' ∧ a4'.toInt = (j : Int) ∧ j ≤ R') ∧ (200 - a4'.toInt).toNat < (200 - z4.toInt).toNat) a1 a2 a3 z4 g2 Φ := by
    intro R2 g2 I2 h2 hj
    unfold w_257_114
    exact ⟨by omega, fun x hx => ⟨⟨rfl, rfl, rfl, R2, j + 1, I2, by omega, by omega, by omega⟩, by omega⟩⟩
  unfold w_257_75
  rw [show a3.toInt.toNat = i by omega, show z4.toInt.toNat = j by omega]
  refine ⟨fun _ => out, fun hlt => ⟨fun _ => out, fun _ => ⟨by omega, fun _ => out, fun hs1 => ⟨by omega, fun _ => nxt R' g gI (Nat.le_refl _) (by omega), fun hs0 => ⟨by omega, ?_⟩⟩⟩⟩⟩
  have hjR : j < R' := by omega
  obtain ⟨p, l, m, t1, t2, t3, t4, t5, t6, t7⟩ := o7 j hjR
  obtain ⟨oV, hl60⟩ := t7.2.2.1 hs0
  obtain ⟨v, Vs, cV⟩ := cutT_ex oV.1
  have hty : tyE g p / 8 < T ∨ 1000 ≤ tyE g p / 8 := by
    rw [(cut_len cV).2]
    have gT' : gT G = T := by rw [← c1.2.2.2.2.2.2.2.1]; exact (pgA c1.1).1
    rcases (okE_cut cV ⟨oV.1, oV.2.1⟩).1 with w | w
    · exact Or.inl (by omega)
    · exact absurd w.2.2 id
  refine Tot.imp (Tot.mono (by omega) (s_220 (d := 0) (H := H) (p := p) c1.1 c1.2.2.2.2.1 c1.2.2.2.2.2.2.1 t1 (by omega) hty)) ?_
  rintro vv w ⟨es, x3, rfl, hr⟩
  have es := es.symm
  subst es
  refine ⟨x3, rfl, fun _ => nxt R' g gI (Nat.le_refl _) hjR, fun hne => ?_⟩
  rintro s4 rfl
  refine ⟨by omega, by omega, ?_⟩
  have sI := IL_sf gI (x := 100000) (by decide)
  obtain ⟨sJ, M2, sW, s70⟩ := id sI
  have sPT : PT b n N F H G S O (sf g 64 100000) := PT_ca hPT (fun f _ => by rw [JF_row sJ (by decide)]) (fun l h _ _ => JF_CA sJ c6 (Nat.le_refl _) (Nat.le_refl _))
  have hst : tyE g p / 8 < T ∧ ¬ gst G (tyE g p / 8) = 0 := by
    rcases hr with ⟨-, q1, q2⟩ | ⟨q, -⟩
    · rw [c1.2.2.2.2.2.2.2.1] at q2
      exact ⟨q1, q2⟩
    · exact absurd q hne
  refine Tot.imp (s_256 (it := j) (ic := i) (p := 0) (l := 0) (pc := 0) (lc := 0) (E := 1) ih hd sW sPT hN hO (by rw [s70]; rfl) (by omega) (by omega) (by omega) hs1 hjR hs0 rfl rfl h3 (fun p' hp' => ?_)) ?_
  · have : p' = p := by
      have h1 : (g.2.1 282 j).toInt = (p' : Int) := hp'
      omega
    rw [this]
    exact hst
  · rintro vv u ⟨rfl, uJ, u70, R2, M3, uW, k1, k2⟩
    refine ⟨rfl, nxt R2 u ⟨JF_tr sJ uJ (by decide) (by omega) (RW_M sW.2.1).2 (Nat.le_refl _) (by omega), M3, uW, by rw [u70]; exact s70⟩ k1 hjR⟩
theorem in54 {d R : Nat} {a1 : Int32} {f : yS} {Φ : Option Value → yS → Prop} (ih : AEH own b n N T F H S0 G S O 11 d) (hd : 5 ≤ d) (hPT : PT b n N F H G S O s) (hN : N ≤ 12006) (hO : O ≤ 120000) (hI : IL own b n N T F H S0 G S s R f) (hΦ : ∀ (r : Int32) (s' : yS), -1 ≤ r.toInt → r.toInt ≤ 150 → JF nK 0 20000 100000 0 s s' → RLk s' → Φ (some (.int r)) s') : wl_257_54 (Tot (d + 1)) a1 (-1) f Φ := by
  have m1 : (-1 : Int32).toInt = -1 := by decide
  refine ⟨fun z1 z2 g => ∃ R' : Nat, IL own b n N T F H S0 G S s R' g ∧ -1 ≤ z2.toInt ∧ z2.toInt ≤ (R' : Int), fun _ z2 _ => (200 - z2.toInt).toNat, ⟨R, hI, by decide, by rw [m1]; omega⟩, ?_⟩
  rintro z1 z2 g ⟨R', gI, k1, k2⟩
  obtain ⟨gJ, M, gW, g70⟩ := id gI
  have gR := gW.2.1
  have h112 : (g.1 112).toInt = (R' : Int) := gR.1
  have h150 := gR.2.1
  have out : w_257_119 (Tot (d + 1)) z1 z2 g Φ := by
    unfold w_257_119 w_257_128
    have fin : ∀ x : Int32, -1 ≤ x.toInt → x.toInt ≤ 150 → Φ (some (.int ((sf g 109 x).1 109))) (sf g 109 x) := fun x x1 x2 => hΦ x (sf g 109 x) x1 x2 (JF_sf gJ (by decide)) (RW_RLk (RW_eq (s := g) gR rfl rfl gR.2.2.2.2.2.1 (fun _ _ _ => rfl)))
    refine ⟨fun _ => ?_, fun _ => ?_⟩
    · rintro s1 rfl
      exact fin (-1) (by decide) (by decide)
    · refine Tot.imp (Tot.mono (by omega) (s_258 (d := 0) h112 h150)) ?_
      rintro vv w ⟨es, x3, rfl, q1, q2⟩
      have es := es.symm
      subst es
      refine ⟨x3, rfl, ?_⟩
      rintro s1 rfl
      exact fin x3 (by omega) (by omega)
  unfold w_257_54
  refine ⟨fun _ => out, fun hne => ⟨fun _ => out, fun _ => ?_⟩⟩
  refine ⟨fun y1 y2 y3 t => y1 = z1 ∧ y2 = g.1 112 ∧ ∃ R2 i : Nat, IL own b n N T F H S0 G S s R2 t ∧ R' ≤ R2 ∧ y3.toInt = (i : Int) ∧ i ≤ R2, fun _ _ y3 _ => (200 - y3.toInt).toNat, ⟨rfl, rfl, R', 0, gI, Nat.le_refl _, rfl, by omega⟩, ?_⟩
  rintro y1 y2 y3 t ⟨e1, e2, R2, i, tI, i1, i2, i3⟩
  have e1 := e1.symm
  have e2 := e2.symm
  subst e1 e2
  have tR : (t.1 112).toInt = (R2 : Int) ∧ R2 ≤ 150 := by
    obtain ⟨-, M', tW, -⟩ := tI
    exact ⟨tW.2.1.1, tW.2.1.2.1⟩
  have back : w_257_118 (Tot (d + 1)) (fun a1' a2' s' => (∃ R' : Nat, IL own b n N T F H S0 G S s R' s' ∧ -1 ≤ a2'.toInt ∧ a2'.toInt ≤ (R' : Int)) ∧ (200 - a2'.toInt).toNat < (200 - z2.toInt).toNat) z1 (g.1 112) y3 t Φ := by
    unfold w_257_118
    exact ⟨⟨R2, tI, by omega, by omega⟩, by omega⟩
  unfold w_257_66
  refine ⟨fun _ => back, fun hlt => ⟨fun _ => back, fun _ => ?_⟩⟩
  refine in75 (R := R2) (R0 := 0) (w0 := R') ih hd hPT hN hO tI i1 i i2 (by omega) (fun R3 u uI q x hx => ⟨⟨rfl, rfl, R3, i + 1, uI, by omega, by omega, by omega⟩, ?_⟩)
  show (200 - x.toInt).toNat < (200 - y3.toInt).toNat
  omega
theorem s_257 (hC : ¬ (s.1 90).toInt = 0 → CK own b n N T F H S0 G s ∧ PT b n N F H G S O s ∧ MN b n N H G S O s ∧ (s.1 29).toInt = (b : Int)) (hS : S ≤ 8210) (hN : N ≤ 12006) (hO : O ≤ 120000) : Tot 514 257 [.ref 213] s (fun v s' => ∃ r : Int32, v = some (.int r) ∧ (s' = sf s 0 0 ∨ (-1 ≤ r.toInt ∧ r.toInt ≤ 150 ∧ ¬ (s.1 90).toInt = 0 ∧ JF nK 0 20000 100000 0 s s' ∧ RLk s'))) := by
  refine t_257 ?_
  unfold w_257_0
  rintro s1 rfl
  refine ⟨fun h90 => ⟨fun h110 => ?_, fun _ => ⟨_, rfl, Or.inl rfl⟩⟩, fun _ => ⟨-1, rfl, Or.inl rfl⟩⟩
  obtain ⟨hC, hP, hM, h29⟩ := hC h90
  obtain ⟨d1, d2, d3, d4, d5, d6, d7, d8, d9, d10⟩ := id hC
  have hb := d1.1
  rintro s2 rfl s3 rfl s4 rfl s5 rfl s6 rfl s7 rfl s8 rfl
  have e75 : s.1 29 = s.1 75 := Int32.toInt_inj.mp (by omega)
  obtain ⟨t, ht⟩ : ∃ t, t = sf (sf (sf (sf (sf (sf (sf (sf s 0 0) 110 1) 75 ((sf (sf s 0 0) 110 1).1 29)) 112 0) 118 20000) 111 1) 64 100000) 70 0 := ⟨_, rfl⟩
  rw [← ht]
  have t2 : t.2 = s.2 := by rw [ht]; rfl
  have tk : ∀ k, k ∉ nK → t.1 k = s.1 k := by
    intro k hk
    have hh : ∀ j, j ∈ nK → ¬ k = j := fun j hj w => hk (by rw [w]; exact hj)
    rw [ht, sf_1, if_neg (hh 70 (by decide)), sf_1, if_neg (hh 64 (by decide)), sf_1, if_neg (hh 111 (by decide)), sf_1, if_neg (hh 118 (by decide)), sf_1, if_neg (hh 112 (by decide)), sf_1]
    by_cases e : k = 75
    · rw [if_pos e, e]
      show s.1 29 = s.1 75
      exact e75
    · rw [if_neg e, sf_1, if_neg (hh 110 (by decide)), sf_1, if_neg (hh 0 (by decide))]
  have t70 : (t.1 70).toInt = ((0 : Nat) : Int) := by rw [ht]; rfl
  have t64 : (t.1 64).toInt = ((100000 : Nat) : Int) := by rw [ht]; rfl
  have t111 : (t.1 111).toInt = 1 := by rw [ht]; rfl
  have t112 : (t.1 112).toInt = ((0 : Nat) : Int) := by rw [ht]; rfl
  have t118 : (t.1 118).toInt = ((20000 : Nat) : Int) := by rw [ht]; rfl
  clear ht
  refine Tot.imp (Tot.mono (by omega) (s_188 (d := 0) (E := 0) t70 (by omega))) ?_
  rintro v u ⟨rfl, x, hx, hu⟩
  refine ⟨t.1 70, rfl, ?_⟩
  refine Tot.imp (Tot.mono (by omega) (s_206 (d := 0))) ?_
  rintro v u' ⟨rfl, hu'⟩
  refine ⟨rfl, ?_⟩
  have uc : ∀ q i, ¬ (q = 266 ∧ i < 2) → u'.2.1 q i = s.2.1 q i := fun q i w => by
    rw [hu', ← t2]
    show u.2.1 q i = _
    rw [hu]
    show (sa (sa t 266 (2 * 0) 0) 266 (2 * 0 + 1) 0).2.1 q i = _
    rw [sa_2, if_neg (fun w' => w ⟨w'.1, by omega⟩), sa_2, if_neg (fun w' => w ⟨w'.1, by omega⟩)]
  have u0 : (u'.2.1 266 0).toInt = 0 := by
    rw [hu']
    show (u.2.1 266 0).toInt = 0
    rw [hu]
    show ((sa (sa t 266 (2 * 0) 0) 266 (2 * 0 + 1) 0).2.1 266 0).toInt = 0
    rw [sa_2, if_neg (fun w => by omega), sa_2, if_pos ⟨rfl, rfl⟩]
    decide
  have u1 : (u'.2.1 266 1).toInt = 0 := by
    rw [hu']
    show (u.2.1 266 1).toInt = 0
    rw [hu]
    show ((sa (sa t 266 (2 * 0) 0) 266 (2 * 0 + 1) 0).2.1 266 1).toInt = 0
    rw [sa_2, if_pos ⟨rfl, rfl⟩]
    decide
  have uk : ∀ k, k ∉ [70, 76, 77, 78] → u'.1 k = t.1 k := fun k hk => by
    rw [hu', sf_1, if_neg (fun w => hk (by rw [w]; decide)), sf_1, if_neg (fun w => hk (by rw [w]; decide)), sf_1, if_neg (fun w => hk (by rw [w]; decide)), hu, sf_1, if_neg (fun w => hk (by rw [w]; decide))]
    rfl
  have u70 : (u'.1 70).toInt = 1 := by
    rw [hu']
    show (u.1 70).toInt = _
    rw [hu]
    show x.toInt = _
    omega
  have ul : u'.2.2 = s.2.2 := by rw [hu', ← t2]; show u.2.2 = _; rw [hu]; rfl
  clear hu hu'
  have uJ : JF nK 0 20000 100000 0 s u' := ⟨fun k hk => (uk k (fun w => hk ((show ∀ k ∈ [70, 76, 77, 78], k ∈ nK by decide) k w))).trans (tk k hk), fun q i _ _ c2 _ => uc q i (fun w => c2 ⟨Or.inr w.1, by omega⟩), ul, fun i => by rw [uc 264 i (fun w => by omega)]; exact d5 i, fun i => by rw [uc 265 i (fun w => by omega)]; exact d6 i⟩
  have uW : RW G 0 20000 u' := ⟨by rw [uk 112 (by decide)]; exact t112, by omega, by rw [uk 118 (by decide)]; exact t118, Nat.le_refl _, by omega, Or.inr (by rw [uk 111 (by decide)]; exact t111), fun i hi => by omega⟩
  have uC := JF_CK hC uJ (by decide) (Nat.le_refl _) (Nat.le_refl _)
  have uI : IWm own b n N T F H S0 G S 0 20000 100000 u' := ⟨uC, uW, by rw [uk 64 (by decide)]; exact t64, Nat.le_refl _, by omega, hS⟩
  obtain ⟨e, l, hh, A, k1, k2, k3, k4, k5, k6⟩ := MN_ca (s' := u') hM (by rw [JF_row uJ (by decide)]) (by rw [JF_row uJ (by decide)]) (fun i _ _ => by rw [JF_row uJ (by decide)]) (fun l h _ _ => JF_CA uJ hS (Nat.le_refl _) (Nat.le_refl _))
  have hg0 := uC.2.2.2.2.2.1 0
  have hg1 := uC.2.2.2.2.2.1 1
  have uV : JE u' 0 100000 (u'.2.1 265 0).toInt.toNat [] (u'.2.1 265 1).toInt.toNat [] := by
    refine ⟨⟨⟨?_, ?_, by decide, fun a A hA => ?_⟩, ⟨?_, ?_, by decide, fun a A hA => ?_⟩⟩, fun a ha => absurd ha (by simp), fun a ha => absurd ha (by simp)⟩
    · show (u'.2.1 265 0).toInt = _
      omega
    · exact u0
    · rw [List.getElem?_nil] at hA
      cases hA
    · show (u'.2.1 265 1).toInt = _
      omega
    · exact u1
    · rw [List.getElem?_nil] at hA
      cases hA
  have envn : ∀ c, envS (u'.2.1 265 0).toInt.toNat [] (u'.2.1 265 1).toInt.toNat [] c = none := fun c => by
    by_cases hc : c < 1000
    · exact envS_lt hc
    · rw [envS_2 (by omega) (grp_none (Or.inr (by show 0 ≤ _; omega)))]
      exact grp_none (Or.inr (by show 0 ≤ _; omega))
  have u29 : (u'.1 29).toInt = (b : Int) := by rw [uJ.1 29 (by decide)]; exact h29
  rw [show (u'.1 29).toInt.toNat = b by omega]
  refine ⟨by omega, ?_⟩
  refine Tot.imp (Tot.mono (by omega) (AEH_all (own := own) (b := b) (n := n) (N := N) (T := T) (F := F) (H := H) (S0 := S0) (G := G) (S := S) (O := O) 11 u' _ _ none l hh e 0 _ _ 0 20000 100000 1 [] [] A uI uV (by omega) (by omega) ⟨fun c _ => envn c, fun c _ => envn c, fun c hc => absurd hc id⟩ (fun c A hA => by rw [envn c] at hA; cases hA) (fun f hf => by cases hf) k4 (by omega) (by omega) hO k1 t70)) ?_
  rintro v w ⟨rfl, wJ, w64, R1, M1, wI, g1, g2⟩
  refine ⟨rfl, ?_⟩
  exact in54 (d := 512) (R := R1) (a1 := t.1 70) (s := s) (f := w) (AEH_all (own := own) (b := b) (n := n) (N := N) (T := T) (F := F) (H := H) (S0 := S0) (G := G) (S := S) (O := O) 11) (by omega) hP hN hO ⟨JF_tr uJ wJ (by decide) (Nat.le_refl _) (Nat.le_refl _) (Nat.le_refl _) (by omega), M1, wI, by rw [wJ.1 70 (by decide)]; exact u70⟩ (fun r s' e1 e2 e3 e4 => ⟨r, rfl, Or.inr ⟨e1, e2, h90, e3, e4⟩⟩)
end IN
