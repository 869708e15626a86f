def wER (G : PG) (H b n : Nat) (fo : Option Nat) (m p lo hi e : Nat) : yS → Nat → Nat → List Nat → Prop := fun s' S' O' A => wEp G H b n (scX G fo) (tVX G fo) S' O' s' (wE G H b n (scX G fo) (tVX G fo) S' O' s' m) p lo hi e A
def PEH (own : Nat → Nat × Nat) (b n W N T F H S0 : Nat) (G : PG) (fo : Option Nat) (m p d : Nat) : Prop := ∀ (s : yS) (a1 : Int32) (lo hi e S O P E : Nat), TW own b n W N T F H S0 G fo S O P E s → TCo own b N (m + 1) lo hi S O P E s → isEp b n s (isE b n s m) p lo hi e → a1.toInt = (e : Int) → Tot d 217 [.ref 213, .int a1] s (fun v s' => v = none ∧ TEQ b lo hi S O P E (130 * (p + 1)) (wER G H b n fo m p lo hi e) s s')
theorem nu1 {S S1 hi lo e : Nat} (h : S1 ≤ S + (e - lo)) (h2 : e ≤ hi) : S1 ≤ S + (hi - lo) := by omega
theorem nu2 {P P1 p : Nat} (h : P1 ≤ P + 130 * (p + 1)) : P1 ≤ P + 130 * (p + 2) := by omega
theorem nu3 {O O1 c c' : Nat} (h : O1 ≤ O + 60 * c) (h' : c ≤ c') : O1 ≤ O + 60 * c' := by omega
theorem nu4 {P P1 p m : Nat} (h : P + 3000 * (m + 1) ≤ 199000) (h1 : P1 ≤ P + 130 * (p + 1)) (h2 : p ≤ 19) : P1 + 3000 * m ≤ 198600 := by omega
theorem nu5 {P P1 M p : Nat} (h : P1 ≤ P + 130 * (p + 1)) (hM : M ≤ 130) : P1 + M ≤ P + 130 * (p + 2) := by omega
section TFD
variable {own : Nat → Nat × Nat} {b n W N T F H S0 : Nat} {G : PG} {fo : Option Nat} {m S O P E : Nat} {s : yS}
/-- the part ahead of a point -/
theorem TCo_sub {m lo hi lo' hi' : Nat} (h : TCo own b N m lo hi S O P E s) (h1 : lo ≤ lo') (h2 : lo' ≤ hi') (h3 : hi' ≤ hi) : TCo own b N m lo' hi' S O P E s := by
  obtain ⟨t1, t2, t3, t4, t5, t6, t7, t8⟩ := h
  have := cM_sub (s := s) h1 h2 h3
  exact ⟨by omega, by omega, t3, fun x x1 x2 => t4 x (by omega) (by omega), by omega, by omega, t7, t8⟩
theorem wER_CA {p lo e a S1 O1 S2 O2 : Nat} {s1 s2 : yS} {A : List Nat} (hc : CA b n lo e S1 O1 s1 s2) (hS : S1 ≤ S2) (hO : O1 ≤ O2) (h : wER G H b n fo m p lo e a s1 S1 O1 A) : wEp G H b n (scX G fo) (tVX G fo) S2 O2 s2 (wE G H b n (scX G fo) (tVX G fo) S2 O2 s2 m) p lo e a A := wEp_eq hS hO hc (fun l h e' B l1 l2 hq => wE_eq hS hO (CA_mo hc (by omega) l2) hq) h
theorem s_223 {d p lo hi e a : Nat} {a1 : Int32} (ih : PEH own b n W N T F H S0 G fo m p d) (hd : 4 ≤ d) (hp : p ≤ 19) (hW : TW own b n W N T F H S0 G fo S O P E s) (hC : TCo own b N (m + 1) lo hi S O P E s) (hehi : e < hi) (h1 : a1.toInt = (e : Int)) (ha : (s.2.1 227 e).toInt = (a : Int)) (hba : (s.2.1 228 a).toInt = (e : Int)) (hE : isEp b n s (isE b n s m) p lo e a) (hpt : 4002 * (b : Int) ≤ (s.2.1 223 e).toInt ∧ (s.2.1 223 e).toInt < 4002 * (b : Int) + n) (hw : (s.2.1 221 e).toInt = 3) (htk : tkN b n s (s.2.1 222 e).toInt) : Tot (d + 1) 223 [.ref 213, .int a1] s (fun v s' => v = none ∧ TEQ b lo hi S O P E (130 * (p + 2)) (wER G H b n fo m (p + 1) lo hi e) s s') := by
  obtain ⟨hb, hn, hT24, hF60, hH, gT', gF', hS8⟩ := TW_num hW
  obtain ⟨c1, c2, c3, c4, c5, c6, c7, c8, c9, c10, c11, c12, c13⟩ := id hW
  obtain ⟨t1, t2, t3, t4, t5, t6, t7, t8⟩ := id hC
  have hla := isEp_lt hE
  have e1 : a1.toInt.toNat = e := by omega
  obtain ⟨k1, k2, -⟩ := htk
  have hcs := cM_sub (s := s) (lo := lo) (hi := hi) (lo' := lo) (hi' := e) (Nat.le_refl _) (by omega) (by omega)
  refine t_223 ?_
  unfold w_223_0
  rw [e1]
  refine ⟨by omega, ?_⟩
  refine Tot.imp (ih s _ lo e a S O P E hW (TCo_sub hC (Nat.le_refl _) (by omega) (by omega)) hE ha) ?_
  rintro v s1 ⟨rfl, F1, f1, S1, O1, P1, q1, q2, q3, q4, q5, q6, q7, q8, q9, q10⟩
  have F1' : TFr tK b lo hi S P E O s s1 := TF_mo F1 (fun _ w => w) (Nat.le_refl _) (by omega) (Nat.le_refl _) (Nat.le_refl _) (Nat.le_refl _) (Nat.le_refl _)
  have f18 := f1.1
  refine ⟨rfl, fun hle => ?_, fun hgt => ⟨rfl, TEQ_bad F1' f1 (by omega) q1 q2 q3 q4 (nu1 q5 (Nat.le_of_lt hehi)) q6 (nu3 q7 hcs) q8 (nu2 q9)⟩⟩
  obtain ⟨A0, p0, a2, a3, a4, a5, a6, a7⟩ := q10 (by omega)
  have W1 : TW own b n W N T F H S0 G fo S1 O1 P1 E s1 := TW_fr hW F1' (by decide) t4 f1.1 q1 (by rw [F1.1 70 (by decide)]; exact c6) q2 q3 q4 (Nat.le_trans (nu1 q5 (Nat.le_of_lt hehi)) t5) q6 (Nat.le_trans c13 q8)
  have hP1 : P1 ≤ 199500 := Nat.le_trans (Nat.le_trans (Nat.le_add_right _ _) (nu4 t7 q9 hp)) (by decide)
  obtain ⟨d1, d2, d3, d4, d5, d6, d7, d8, d9, d10⟩ := id W1.1
  have kE := (wEp_ok a7).1
  have kl := (wEp_ok a7).2
  obtain ⟨x, As, hc⟩ := cutT_ex kE.1
  obtain ⟨vx, kA⟩ := okE_cut hc kE
  have ex : tyE s1 p0 = x := by rw [← a4] at hc; exact (cut_len hc).2
  have hx6 : x % 8 ≤ 6 ∧ (x / 8 < T ∨ 1000 ≤ x / 8) := by
    rcases vx with w | w
    · have := (d9.2.1 _ w.1).1
      omega
    · omega
  have tp := d5 p0
  have tpI : (s1.2.1 264 p0).toInt = (x : Int) := by unfold tyE at ex; omega
  have r22 : s1.2.1 222 e = s.2.1 222 e := by rw [TF_row F1 (by decide)]
  have r23 : s1.2.1 223 e = s.2.1 223 e := by rw [TF_row F1 (by decide)]
  have bad : ∀ (t u : yS) (S' O' P' : Nat), TFr tK b lo hi S P E O s t → Lx b n W t → f8 s t → FO t u → ¬ (u.1 8).toInt = 0 → (t.1 64).toInt = (P' : Int) → (t.1 65).toInt = (S' : Int) → (t.1 85).toInt = (O' : Int) → S ≤ S' → S' ≤ S + (hi - lo) → O ≤ O' → O' ≤ O + 60 * cM s lo hi → P ≤ P' → P' ≤ P + 130 * (p + 2) → TEQ b lo hi S O P E (130 * (p + 2)) (wER G H b n fo m (p + 1) lo hi e) s u := by
    intro t u S' O' P' tF _ tf hF hne z1 z2 z3 z4 z5 z6 z7 z8 z9
    exact TEQ_bad (TF_fo tF hF (by decide)) (f8_tr tf (f8_fo hF hne)) hne (by rw [FO_1 hF (by decide)]; exact z1) (by rw [FO_1 hF (by decide)]; exact z2) (by rw [FO_1 hF (by decide)]; exact z3) z4 z5 z6 z7 z8 z9
  have hz : P1 ≤ P + 130 * (p + 2) := nu2 q9
  have hz2 : S1 ≤ S + (hi - lo) := nu1 q5 (Nat.le_of_lt hehi)
  have hz3 : O1 ≤ O + 60 * cM s lo hi := nu3 q7 hcs
  refine Tot.imp (Tot.mono (by omega) (s_220 (d := 0) (H := H) (p := p0) d1 d5 d7 a2 (by omega) (by rw [ex]; exact hx6.2))) ?_
  rintro v s2 ⟨es, x5, rfl, h5⟩
  have es := es.symm
  subst es
  rw [ex, d8] at h5
  refine ⟨x5, rfl, fun h50 => ⟨by omega, fun x6 hx6' => ⟨by omega, ?_⟩⟩, fun h50 => ⟨by omega, ?_⟩⟩
  · rw [show (s1.1 80).toInt.toNat = p0 by omega]
    refine Tot.imp (Tot.mono (by omega) (s_185 (d := 0) tp.1)) ?_
    rintro v s2 ⟨es, x9, rfl, hx9⟩
    have es := es.symm
    subst es
    obtain ⟨-, hxT, hst⟩ := h5.resolve_right (fun w => h50 w.1)
    clear h5
    obtain ⟨D, hD⟩ : ∃ D, D = x / 8 := ⟨_, rfl⟩
    rw [← hD] at hxT hst
    have hxm : x % 8 = gfm G D := by
      rcases vx with w | w
      · rw [w.2, hD]
      · omega
    refine ⟨x9, rfl, by omega, fun x10 hx10 => ?_⟩
    have e10 : x10.toInt.toNat = 24 * b + D := by omega
    have g := pgA d1
    rw [d8] at g
    obtain ⟨-, -, g3, -, -, g6, -⟩ := g
    obtain ⟨-, -, -, -, -, -, r7, r8, r9, -⟩ := d1.2.2.2.2.2.2.2.1 D hxT
    refine ⟨fun z1 z2 z3 z4 t => z1 = a1 ∧ z2 = x10 ∧ t = s1 ∧ 0 ≤ z4.toInt ∧ z4.toInt ≤ 6 ∧ (z3.toInt = -1 ∨ (0 ≤ z3.toInt ∧ z3.toInt < (s1.2.1 239 (24 * b + D)).toInt)), fun _ _ _ z4 _ => (7 - z4.toInt).toNat, ⟨rfl, rfl, rfl, by decide, by decide, Or.inl (by decide)⟩, ?_⟩
    rintro z1 z2 z3 z4 t ⟨y1, y2, y3, y4, y5, y6⟩
    have y1 := y1.symm
    have y2 := y2.symm
    have y3 := y3.symm
    subst y1 y2 y3
    unfold w_223_39
    rw [e10, e1]
    refine ⟨by omega, fun hend => ⟨fun hpos => ⟨by omega, ?_⟩, fun hneg => ⟨by omega, ?_⟩⟩, fun hmore => ⟨by omega, fun x9' hx9' => ⟨by omega, fun x10' hx10' => ?_⟩⟩⟩
    · -- found
      rintro s2 rfl
      obtain ⟨k, hk⟩ : ∃ k : Nat, z3.toInt = (k : Int) := ⟨z3.toInt.toNat, by omega⟩
      have C2 : OneC 226 e s1 (sa s1 226 e z3) := OneC_sa OneC_rf
      have w21 : (s1.2.1 221 e).toInt = 3 := by rw [TF_row F1 (by decide)]; exact hw
      have F2 : TFr tK b e (e + 1) S1 P1 E O1 s1 (sa s1 226 e z3) := ⟨fun k _ => rfl, fun q i w1 _ _ _ _ => C2.2.1 q i (fun w => w1 ⟨Or.inl ⟨w.1, by rw [w.2]; exact w21⟩, by omega, by omega⟩), rfl, fun i => by rw [OneC_row C2 (by decide)]; exact d5 i, fun i => by rw [OneC_row C2 (by decide)]; exact d6 i⟩
      have W2 : TW own b n W N T F H S0 G fo S1 O1 P1 E (sa s1 226 e z3) := TW_fr W1 F2 (by decide) (fun x x1 x2 => t4 x (by omega) (by omega)) f1.1 q1 (by show (s1.1 70).toInt = _; rw [F1.1 70 (by decide)]; exact c6) q2 q3 (Nat.le_refl _) (Nat.le_trans hz2 t5) (Nat.le_refl _) (Nat.le_trans c13 q8)
      have seg2 : seg (sa s1 226 e z3) p0 A0.length = A0 := by
        rw [← a4, seg_len]
        exact seg_eq (fun i _ _ => C2.2.1 264 i (fun w => by omega))
      obtain ⟨s2, hs2⟩ : ∃ s2, s2 = sa s1 226 e z3 := ⟨_, rfl⟩
      have h226 : s2.2.1 226 e = z3 := by rw [hs2, sa_2, if_pos ⟨rfl, rfl⟩]
      have e80 : s2.1 80 = s1.1 80 := by rw [hs2]; rfl
      have e8 : s2.1 8 = s1.1 8 := by rw [hs2]; rfl
      have e65 : s2.1 65 = s1.1 65 := by rw [hs2]; rfl
      have e85 : s2.1 85 = s1.1 85 := by rw [hs2]; rfl
      rw [← hs2] at W2 seg2 C2 F2 ⊢
      have hkf : k < gfd G D := by rw [(g3 D hxT).2.2.2.2]; unfold nT; omega
      rw [e80]
      refine Tot.imp (Tot.mono (show 0 + 3 ≤ d by omega) (s_224 (d := 0) (k := k) (p := p0) (l := A0.length) (x := x) (As := As) (D := D) W2 hP1 (by omega) a2 a6 (by rw [seg2]; exact hc) hD hxT hxm hk hkf)) ?_
      rintro v s3 ⟨r, rfl, X3, hr⟩
      have F3 : TFr tK b e (e + 1) S1 P1 E O1 s1 s3 := TF_tr F2 (TF_xf (b := b) (lo := e) (hi := e + 1) (S := S1) (O := O1) X3) (by decide) (Nat.le_refl _) (Nat.le_refl _) (Nat.le_refl _) (Nat.le_refl _) (Nat.le_refl _) (Nat.le_refl _)
      have F3' : TFr tK b lo hi S P E O s s3 := TF_tr F1' F3 (fun _ w => w) (by omega) (by omega) q4 q8 (Nat.le_refl _) q6
      have s38 : s3.1 8 = s1.1 8 := by rw [X3.1 8 (by decide), e8]
      have f3 : f8 s s3 := f8_tr f1 (f8_eq f1.1 s38)
      have s365 : (s3.1 65).toInt = (S1 : Int) := by rw [X3.1 65 (by decide), e65]; exact q2
      have s385 : (s3.1 85).toInt = (O1 : Int) := by rw [X3.1 85 (by decide), e85]; exact q3
      unfold w_223_98
      refine ⟨r, rfl, fun hr0 => ⟨rfl, ?_⟩, fun hr0 => ⟨by omega, ?_⟩⟩
      · obtain ⟨-, M, m1, m2, m3, m4, m5, m6⟩ := hr.resolve_left (fun w => hr0 w.1)
        obtain ⟨A, hA⟩ : ∃ A, A = subs (envS (1000 + 6 * D) As 0 []) (gft G D k) := ⟨_, rfl⟩
        rw [← hA] at m1 m6
        have okA : okE G (scX G fo) A := by
          rw [hA]
          refine okE_subs d9.1.1 (d9.2.2.2.2.1 D (by omega) k hkf).1 (fun c hc => envS_lt hc) (fun c hc' => ?_)
          obtain ⟨B, b1, b2⟩ := dcl_cov (b1 := 0) (Bs := []) (by rw [hc.2.2]; exact hxm) hc'
          exact Or.inl ⟨B, b1, kA B b2⟩
        have hCA : CA b n lo e S1 O1 s1 s3 := TF_CA F3 (Or.inl (Nat.le_refl _)) (by omega)
        refine ⟨F3', f3, S1, O1, P1 + M, m5, s365, s385, q4, hz2, q6, hz3, Nat.le_trans q8 (Nat.le_add_right _ _), nu5 q9 (Nat.le_trans m2 (by decide)), fun _ => ⟨A, P1, m3, by rw [← m1]; exact m4, by rw [← m1]; exact m6, Or.inr (Nat.le_trans c13 q8), Nat.le_of_eq (by rw [m1]), hehi, a, A0, ?_, ?_, wER_CA hCA (Nat.le_refl _) (Nat.le_refl _) a7, Or.inl ⟨?_, x, As, k, hc, by omega, by rw [← hD]; exact hst, ?_, by rw [← hD]; exact hkf, by rw [← hD]; exact hA⟩, okA, by rw [← m1]; exact m2⟩⟩
        · rw [TF_row F3' (by decide)]; exact ha
        · rw [TF_row F3' (by decide)]; exact hba
        · rw [TF_row F3' (by decide)]; exact hw
        · rw [XF_row X3 (by decide), h226]; exact hk
      · rw [TF_row F3 (by decide), r22]
        refine Tot.imp (Tot.mono (by omega) (fo_163 (d := 0) (w := 9) (Lx_xf W2.2.1 X3) (by rw [s38]; exact f1.1) (by decide) ⟨k1, by omega⟩)) ?_
        rintro v u ⟨rfl, hF, hne⟩
        have r64 := (hr.resolve_right (fun w => by omega)).2
        exact ⟨rfl, rfl, bad s3 u S1 O1 P1 F3' (Lx_xf W2.2.1 X3) f3 hF hne r64 s365 s385 q4 hz2 q6 hz3 q8 hz⟩
    · rw [r22]
      refine Tot.imp (Tot.mono (by omega) (fo_163 (d := 0) (w := 2) W1.2.1 f1.1 (by decide) ⟨k1, by omega⟩)) ?_
      rintro v u ⟨rfl, hF, hne⟩
      exact ⟨rfl, rfl, bad s1 u S1 O1 P1 F1' W1.2.1 f1 hF hne q1 q2 q3 q4 hz2 q6 hz3 q8 hz⟩
    · rw [show x10'.toInt.toNat = 6 * (24 * b + D) + z4.toInt.toNat by omega, r22]
      obtain ⟨v1, v2, -⟩ := (r9 z4.toInt.toNat (by omega)).1
      have nxt : ∀ t0 : Int32, (t0.toInt = -1 ∨ (0 ≤ t0.toInt ∧ t0.toInt < (s1.2.1 239 (24 * b + D)).toInt)) → w_223_67 (Tot d) (fun a1' a2' a3' a4' s' => (a1' = a1 ∧ a2' = x10 ∧ s' = s1 ∧ 0 ≤ a4'.toInt ∧ a4'.toInt ≤ 6 ∧ (a3'.toInt = -1 ∨ (0 ≤ a3'.toInt ∧ a3'.toInt < (s1.2.1 239 (24 * b + D)).toInt))) ∧ (7 - a4'.toInt).toNat < (7 - z4.toInt).toNat) a1 x10 z3 z4 t0 s1 (fun v s' => v = none ∧ TEQ b lo hi S O P E (130 * (p + 2)) (wER G H b n fo m (p + 1) lo hi e) s s') := by
        intro t0 ht0
        unfold w_223_67
        exact ⟨by omega, fun x1 hx1 => ⟨⟨rfl, rfl, rfl, by omega, by omega, ht0⟩, by omega⟩⟩
      refine ⟨by omega, by omega, by omega, by omega, fun _ => nxt z3 y6, fun _ => nxt z4 (Or.inr ⟨y4, by omega⟩)⟩
  · rw [r23]
    refine Tot.imp (Tot.mono (by omega) (fo_163 (d := 0) (w := 6) W1.2.1 f1.1 (by decide) ⟨hpt.1, by omega⟩)) ?_
    rintro v u ⟨rfl, hF, hne⟩
    exact ⟨rfl, rfl, bad s1 u S1 O1 P1 F1' W1.2.1 f1 hF hne q1 q2 q3 q4 hz2 q6 hz3 q8 hz⟩
end TFD
