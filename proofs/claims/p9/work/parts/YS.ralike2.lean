/-! ===== the reference: alike ===== -/
/-- the TYPE A stands at p, ahead of T -/
def TYe (ar : Int → Int) (nT β0 β1 nX nY T : Int) (s : yS) (p : Int) (A : List Int) : Prop := (0 ≤ p ∧ p + (A.length : Int) ≤ T) ∧ RWel s p (A.map (rhE ar β0 β1)) ∧ isR ar 1 A ∧ (A.length ≤ 60 ∧ cdT nT A) ∧ cdW nX nY A
def ALq (T e V : Int) (s : yS) (v : Option Value) (s' : yS) : Prop := WFr T e s s' ∧ (s'.1 8 = s.1 8 ∧ s'.1 64 = s.1 64 ∧ (s'.1 70).toInt = e) ∧ ∃ r : Int32, v = some (.int r) ∧ r.toInt = V
section YSA
variable {ar kd : Int → Int} {cf : Nat → Int} {fs : Nat → Nat} {F H d e h g : Nat} {nT : Int} {tm tn : Int → Nat} {hd : Nat → Nat × Nat × List (List Int)} {hb ow hw : Nat → Int} {Bf : Int → List (List Int)} {b A T ca cb co β0 β1 nX nY e1 p c : Int} {s s' : yS} {a1 a2 a3 a4 a5 : Int32} {B' O' Z l : List Int} {X : List (List Int)}
theorem TYe_w (hw0 : WFr T e1 s s') (g0 : TYe ar nT β0 β1 nX nY T s p Z) : TYe ar nT β0 β1 nX nY T s' p Z := ⟨g0.1, WFr_el hw0 g0.1.1 (by rw [List.length_map]; exact g0.1.2) g0.2.1, g0.2.2⟩
theorem TYe_T {T' : Int} (hT : T ≤ T') (g0 : TYe ar nT β0 β1 nX nY T s p Z) : TYe ar nT β0 β1 nX nY T' s p Z := ⟨⟨g0.1.1, by have := g0.1.2; omega⟩, g0.2⟩
/-- the TYPES behind a TYPE's name, as a group -/
theorem ar_6 (hG : PGr ar kd cf fs F H nT tm tn hd hb ow hw Bf b A s) (h0 : 0 ≤ c) (h1 : c < 24 → c < nT) : ar c ≤ 6 := by
  obtain ⟨-, gt, -, -, -, -, -, h24⟩ := hG
  rcases Int.lt_or_le c 24 with q | q
  · exact (gt c h0 (h1 q)).2.1.2
  · rw [h24 c q]
    decide
theorem gr_189 (ha : ∀ c, 0 ≤ ar c ∧ ar c ≤ 7) (h6c : ar c ≤ 6) (hTY : TYe ar nT β0 β1 nX nY T s a4.toInt (c :: l)) (h1 : a1.toInt = (e : Int)) : Par d 189 [.ref 213, .int a1, .int 0, .int a3, .int a4] s (fun v s' => v = none ∧ GRf (2 * e) s s' ∧ s'.2.1 265 (2 * e) = a3 ∧ (s'.2.1 266 (2 * e)).toInt = (((argT ar (c :: l)).map (List.map (rhE ar β0 β1))).length : Int) ∧ GRe s' (2 * e) T ((argT ar (c :: l)).map (List.map (rhE ar β0 β1))) ((argT ar (c :: l)).map (List.map (rhE ar β0 β1))).length) := by
  obtain ⟨k1, k2, k3, k4, k5⟩ := hTY
  obtain ⟨o1, o2, o3⟩ := argT_ok ha k3
  have z0 : (0 : Int32).toInt = 0 := by decide
  have hfl : ((argT ar (c :: l)).map (List.map (rhE ar β0 β1))).flatten = l.map (rhE ar β0 β1) := by rw [fl_map, o1]
  have hac := ha c
  rw [List.length_cons] at k1
  refine x_189 (g := 2 * e) (c := rhE ar β0 β1 c) (by rw [h1, z0]; omega) ?_ ?_ ?_ ?_ ?_
  · rw [hfl]
    exact k2
  · rw [List.length_map, o3]
    exact rhE_m hac
  · intro x hx
    obtain ⟨y, hy, rfl⟩ := List.mem_map.mp hx
    exact isR_m8 ha y 1 (o2 y hy)
  · rw [List.length_map]
    omega
  · rw [hfl, List.length_map]
    omega
theorem argT_cd (ha : ∀ c, 0 ≤ ar c ∧ ar c ≤ 7) (hR : isR ar 1 (c :: l)) (hc : cdW nX nY (c :: l)) : ∀ x ∈ argT ar (c :: l), ∀ c' ∈ x, 0 ≤ c' ∧ c' < 36 := fun x hx c' hc' => by
  obtain ⟨o1, -, -⟩ := argT_ok ha hR
  have : c' ∈ l := by
    rw [← o1]
    exact List.mem_flatten.mpr ⟨x, hx, hc'⟩
  obtain ⟨k1, k2, -⟩ := hc c' (List.mem_cons_of_mem _ this)
  exact ⟨k1, k2⟩
theorem dr_cons {Z : List (List Int)} {i : Nat} (hi : i < Z.length) : Z.drop i = Z.getD i [] :: Z.drop (i + 1) := by
  rw [drop_at (List.getElem?_eq_getElem hi), List.getD_eq_getElem?_getD, List.getElem?_eq_getElem hi]
  rfl
set_option maxHeartbeats 8000000 in
/-- alike, the loops -/
theorem al_72 {Q : Option Value → yS → Prop} {e' : Nat} {XB XO : List (List Int)} {V : Int} (hG : PGr ar kd cf fs F H nT tm tn hd hb ow hw Bf b A s) (hbo : bOK β0 β1) (hT : (s.1 64).toInt = T) (hA : A ≤ T) (h1 : a1.toInt = 204 * b + (h : Int)) (h4 : a4.toInt = 204 * b + (g : Int)) (hh : h < H) (hg : g < H) {a6 a7 : Int32} (h6 : a6.toInt = (e : Int)) (h7 : a7.toInt = (e' : Int)) (Ea : EVr s e T (hb h) (XB.map (List.map (rhE ar β0 β1))) (2000 + 6 * (h : Int)) ((sTn.take (hd h).1).map (List.map (rhE ar β0 β1)))) (Eb : EVr s e' T (hb g) (XO.map (List.map (rhE ar β0 β1))) (2000 + 6 * (g : Int)) ((sTn.take (hd g).1).map (List.map (rhE ar β0 β1)))) (lB : (XB.length : Int) = ar (ow h)) (lO : (XO.length : Int) = ar (ow g)) (cB : ∀ x ∈ XB, ∀ c ∈ x, 0 ≤ c ∧ c < 36) (cO : ∀ x ∈ XO, ∀ c ∈ x, 0 ≤ c ∧ c < 36) (enf : (hd h).1 = (hd g).1) (hV : V = alkL (eta XB sTn) (eta XO sTn) (decide (¬ (hd h).2.1 = (hd g).2.1)) (hd h).1 (hd h).2.2 (hd g).2.2) (hQ : ∀ (t0 x1 : Int32) (u s2 : yS), PKf T s u → (∀ k, ¬ k = 71 → ¬ k = 72 → u.1 k = s.1 k) → t0.toInt = cvA V → x1.toInt = (u.1 70).toInt - 2 → s2 = sf u 70 x1 → Q (some (.int t0)) s2) : ubl_196_72 (Par d) a1 a2 a3 a4 a5 a6 a7 1 0 s Q := by
  obtain ⟨η, hη⟩ : ∃ η, η = eta XB sTn := ⟨_, rfl⟩
  obtain ⟨θ, hθ⟩ : ∃ θ, θ = eta XO sTn := ⟨_, rfl⟩
  rw [← hη, ← hθ] at hV
  obtain ⟨bb, hbb⟩ : ∃ bb, bb = decide (¬ (hd h).2.1 = (hd g).2.1) := ⟨_, rfl⟩
  rw [← hbb] at hV
  have hGs := hG
  obtain ⟨-, -, -, -, gh, -, ha, h24⟩ := hG
  obtain ⟨⟨⟨l1, l2⟩, ⟨l3, l4, l5⟩, l6, l7, l8, l9⟩, lb, -⟩ := gh h hh
  obtain ⟨⟨⟨m1, m2⟩, ⟨m3, m4, m5⟩, m6, m7, m8, m9⟩, mb, -⟩ := gh g hg
  have h6B := ar_6 hGs (gh h hh).2.2.1.1.1 (fun _ => (gh h hh).2.2.1.1.2)
  have h6O := ar_6 hGs (gh g hg).2.2.1.1.1 (fun _ => (gh g hg).2.2.1.1.2)
  have hη42 : ∀ p, p < 12 → ∀ c ∈ η p, 0 ≤ c ∧ c < 42 := fun p hp => by
    rw [hη]
    exact eta_42 cB hp
  have hθ42 : ∀ p, p < 12 → ∀ c ∈ θ p, 0 ≤ c ∧ c < 42 := fun p hp => by
    rw [hθ]
    exact eta_42 cO hp
  have AQ0 : PKf T s s ∧ ∀ k, ¬ k = 71 → ¬ k = 72 → s.1 k = s.1 k := ⟨PKf_rf, fun _ _ _ => rfl⟩
  -- one TYPE of each
  have one : ∀ (u : yS) (y z : Int32) (i : Nat), PKf T s u → (∀ k, ¬ k = 71 → ¬ k = 72 → u.1 k = s.1 k) → i < (hd h).2.2.length → i < (hd g).2.2.length → RSe s A y.toInt (((hd h).2.2.getD i []).map (rhE ar (hb h) (2000 + 6 * (h : Int)))) → RSe s A z.toInt (((hd g).2.2.getD i []).map (rhE ar (hb g) (2000 + 6 * (g : Int)))) → Par d 197 [.ref 213, .int y, .int a6, .int z, .int a7] u (fun v s' => (PKf T s s' ∧ ∀ k, ¬ k = 71 → ¬ k = 72 → s'.1 k = s.1 k) ∧ ∃ r : Int32, v = some (.int r) ∧ ∀ (k : Nat), ¬ (k = 0 ∧ bb = true) → (r.toInt = 1 ∧ alkL η θ bb k ((hd h).2.2.drop i) ((hd g).2.2.drop i) = alkL η θ bb (k - 1) ((hd h).2.2.drop (i + 1)) ((hd g).2.2.drop (i + 1))) ∨ (¬ r.toInt = 1 ∧ r.toInt = cvA (alkL η θ bb k ((hd h).2.2.drop i) ((hd g).2.2.drop i)))) := by
    intro u y z i hu1 hu2 hi1 hi2 hy hz
    have Wu : WFr T 0 s u := WFr_pk hu1 (fun k _ w2 w3 => hu2 k w2 w3)
    have hx := l6 _ (getD_mem hi1)
    have hx' := m6 _ (getD_mem hi2)
    refine Par.imp (x_197 (s := u) (A := A) (by rw [hu2 64 (by decide) (by decide)]; exact hT) hA (RSe_w Wu hA hy) (RSe_w Wu hA hz) h6 h7 (EVr_pk hu1 Ea) (EVr_pk hu1 Eb)) ?_
    rintro v s' ⟨p1, p2, r, rfl, hr⟩
    refine ⟨⟨PKf_tr hu1 p1, fun k w1 w2 => (p2 k w1 w2).trans (hu2 k w1 w2)⟩, r, rfl, fun k hk => ?_⟩
    rw [enc_hd ha lb (by omega) l3 (by rw [lB]; exact hx.1), enc_hd ha mb (by omega) m3 (by rw [lO]; exact hx'.1), ← hη, ← hθ] at hr
    rw [dr_cons hi1, dr_cons hi2, hr]
    exact al_one ha hbo (sbs_42 hη42 (fun c hc => ⟨(hx.1 c hc).1, (hx.1 c hc).2.1⟩)) (sbs_42 hθ42 (fun c hc => ⟨(hx'.1 c hc).1, (hx'.1 c hc).2.1⟩)) hk
  have r : ∀ {u : yS}, PKf T s u → ∀ q, ¬ q = 264 → u.2.1 q = s.2.1 q := fun hu q hq => funext fun j => hu.2.1 q j hq
  -- the end
  have f171 : ∀ (b1 b2 b3 b4 b5 b6 b7 b8 b9 t0 : Int32) (u : yS), PKf T s u → (∀ k, ¬ k = 71 → ¬ k = 72 → u.1 k = s.1 k) → t0.toInt = cvA V → ub_196_171 (Par d) b1 b2 b3 b4 b5 b6 b7 b8 b9 t0 u Q := by
    intro b1 b2 b3 b4 b5 b6 b7 b8 b9 t0 u hu1 hu2 ht
    unfold ub_196_171
    intro _ x1 hx1 s2 hs2
    exact hQ t0 x1 u s2 hu1 hu2 ht hx1 hs2
  have f154 : ∀ (b2 b3 b5 b8 b9 : Int32) (u : yS), PKf T s u → (∀ k, ¬ k = 71 → ¬ k = 72 → u.1 k = s.1 k) → ((b8.toInt = 1 ∧ bb = false ∧ V = alkL η θ bb 0 ((hd h).2.2.drop ((hd h).1 + (hd h).2.1)) ((hd g).2.2.drop ((hd h).1 + (hd h).2.1))) ∨ (¬ b8.toInt = 1 ∧ b8.toInt = cvA V)) → ub_196_154 (Par d) a1 b2 b3 a4 b5 a6 a7 b8 b9 u Q := by
    intro b2 b3 b5 b8 b9 u hu1 hu2 hc
    unfold ub_196_154
    rw [h1, h4, r hu1 251 (by decide)]
    refine ⟨fun w => ?_, fun w _ _ => ?_⟩
    · rcases hc with q | q
      · exact absurd q.1 w
      · exact f171 _ _ _ _ _ _ _ _ _ _ u hu1 hu2 q.2
    · rcases hc with ⟨-, q1, q2⟩ | q
      · have env' : (hd h).2.1 = (hd g).2.1 := by
          rw [q1] at hbb
          exact Decidable.of_not_not (of_decide_eq_false hbb.symm)
        have hi1 : (hd h).1 + (hd h).2.1 < (hd h).2.2.length := by omega
        have hi2 : (hd h).1 + (hd h).2.1 < (hd g).2.2.length := by omega
        refine Par.imp (one u _ _ ((hd h).1 + (hd h).2.1) hu1 hu2 hi1 hi2 l9 (by rw [enf, env']; exact m9)) ?_
        rintro v s' ⟨⟨p1, p2⟩, x3, rfl, hr⟩
        refine ⟨x3, rfl, f171 _ _ _ _ _ _ _ _ _ _ s' p1 p2 ?_⟩
        rcases hr 0 (fun z => by rw [q1] at z; exact absurd z.2 (by decide)) with ⟨k1, k2⟩ | ⟨k1, k2⟩
        · rw [q2, k2, k1, List.drop_eq_nil_of_le (by omega), List.drop_eq_nil_of_le (by omega)]
          show (1 : Int) = cvA 0
          decide
        · rw [q2]
          exact k2
      · exact absurd w q.1
  have f119 : ∀ (b2 b3 b5 b8 b9 t0 : Int32) (u : yS), PKf T s u → (∀ k, ¬ k = 71 → ¬ k = 72 → u.1 k = s.1 k) → ((t0.toInt = 1 ∧ bb = false ∧ V = alkL η θ bb 0 ((hd h).2.2.drop (hd h).1) ((hd g).2.2.drop (hd h).1)) ∨ (¬ t0.toInt = 1 ∧ t0.toInt = cvA V)) → ub_196_119 (Par d) a1 b2 b3 a4 b5 a6 a7 b8 b9 t0 u Q := by
    intro b2 b3 b5 b8 b9 t0 u hu1 hu2 hc
    unfold ub_196_119
    refine ⟨fun d1 d2 d3 d4 d5 d6 d7 d8 d9 t => d1 = a1 ∧ d4 = a4 ∧ d6 = a6 ∧ d7 = a7 ∧ PKf T s t ∧ (∀ k, ¬ k = 71 → ¬ k = 72 → t.1 k = s.1 k) ∧ ∃ i : Nat, i ≤ (hd h).2.1 ∧ d9.toInt = (i : Int) ∧ ((d8.toInt = 1 ∧ bb = false ∧ V = alkL η θ bb 0 ((hd h).2.2.drop ((hd h).1 + i)) ((hd g).2.2.drop ((hd h).1 + i))) ∨ (¬ d8.toInt = 1 ∧ d8.toInt = cvA V)), ⟨rfl, rfl, rfl, rfl, hu1, hu2, 0, Nat.zero_le _, by decide, hc⟩, ?_⟩
    rintro d1 d2 d3 d4 d5 d6 d7 d8 d9 t ⟨e1, e2, e3, e4, t1, t2, i, j1, j2, j3⟩
    subst e1 e2 e3 e4
    unfold ub_196_122
    rw [h1, h4, r t1 248 (by decide), r t1 250 (by decide), l2]
    intro _
    refine ⟨fun w => f154 _ _ _ _ _ t t1 t2 ?_, fun w => ⟨fun w2 => f154 _ _ _ _ _ t t1 t2 ?_, fun w2 _ x1 hx1 _ x2 hx2 _ _ x3 hx3 _ x4 hx4 _ => ?_⟩⟩
    · have ei : i = (hd h).2.1 := by omega
      rw [ei] at j3
      exact j3
    · rcases j3 with q | q
      · exact absurd q.1 w2
      · exact Or.inr q
    · rcases j3 with ⟨-, q1, q2⟩ | q
      · have env' : (hd h).2.1 = (hd g).2.1 := by
          rw [q1] at hbb
          exact Decidable.of_not_not (of_decide_eq_false hbb.symm)
        have hi1 : (hd h).1 + i < (hd h).2.2.length := by omega
        have hi2 : (hd h).1 + i < (hd g).2.2.length := by omega
        have e2 : x2.toInt = 6 * (204 * b + (h : Int)) + (i : Int) := by omega
        have e4 : x4.toInt = 6 * (204 * b + (g : Int)) + (i : Int) := by omega
        rw [e2, e4]
        refine Par.imp (one t _ _ ((hd h).1 + i) t1 t2 hi1 hi2 (l8 i (by omega)) (by rw [enf]; exact m8 i (by omega))) ?_
        rintro v s' ⟨⟨p1, p2⟩, x7, rfl, hr⟩
        refine ⟨x7, rfl, fun _ x8 hx8 => ⟨rfl, rfl, rfl, rfl, p1, p2, i + 1, by omega, by omega, ?_⟩⟩
        rcases hr 0 (fun z => by rw [q1] at z; exact absurd z.2 (by decide)) with ⟨k1, k2⟩ | ⟨k1, k2⟩
        · exact Or.inl ⟨k1, q1, by rw [q2, k2]; rfl⟩
        · exact Or.inr ⟨k1, by rw [q2]; exact k2⟩
      · exact absurd w2 q.1
  have f104 : ∀ (b2 b3 b5 b8 b9 : Int32) (u : yS), PKf T s u → (∀ k, ¬ k = 71 → ¬ k = 72 → u.1 k = s.1 k) → ((b8.toInt = 1 ∧ V = alkL η θ bb 0 ((hd h).2.2.drop (hd h).1) ((hd g).2.2.drop (hd h).1)) ∨ (¬ b8.toInt = 1 ∧ b8.toInt = cvA V)) → ub_196_104 (Par d) a1 b2 b3 a4 b5 a6 a7 b8 b9 u Q := by
    intro b2 b3 b5 b8 b9 u hu1 hu2 hc
    unfold ub_196_104
    rw [h1, h4, r hu1 248 (by decide), l2, m2]
    refine ⟨fun w => ?_, fun w _ _ => ⟨fun w2 => ?_, fun w2 => ?_⟩⟩
    · unfold ub_196_118
      rcases hc with q | q
      · exact absurd q.1 w
      · exact f119 _ _ _ _ _ _ u hu1 hu2 (Or.inr q)
    · unfold ub_196_118
      rcases hc with q | q
      · exact f119 _ _ _ _ _ _ u hu1 hu2 (Or.inl ⟨q.1, by rw [hbb]; exact decide_eq_false (fun z => z (by omega)), q.2⟩)
      · exact absurd w q.1
    · rcases hc with q | q
      · refine f119 _ _ _ _ _ _ u hu1 hu2 (Or.inr ⟨by decide, ?_⟩)
        have eb : bb = true := by
          rw [hbb]
          exact decide_eq_true (fun z => w2 (by rw [z]))
        have hi1 : (hd h).1 < (hd h).2.2.length := by omega
        have hi2 : (hd h).1 < (hd g).2.2.length := by omega
        rw [q.2, dr_cons hi1, dr_cons hi2]
        have e7 : alkL η θ bb 0 ((hd h).2.2.getD (hd h).1 [] :: (hd h).2.2.drop ((hd h).1 + 1)) ((hd g).2.2.getD (hd h).1 [] :: (hd g).2.2.drop ((hd h).1 + 1)) = 7 := if_pos ⟨rfl, eb⟩
        rw [e7]
        decide
      · exact absurd w q.1
  refine ⟨fun d1 d2 d3 d4 d5 d6 d7 d8 d9 t => d1 = a1 ∧ d4 = a4 ∧ d6 = a6 ∧ d7 = a7 ∧ PKf T s t ∧ (∀ k, ¬ k = 71 → ¬ k = 72 → t.1 k = s.1 k) ∧ ∃ i : Nat, i ≤ (hd h).1 ∧ d9.toInt = (i : Int) ∧ ((d8.toInt = 1 ∧ V = alkL η θ bb ((hd h).1 - i) ((hd h).2.2.drop i) ((hd g).2.2.drop i)) ∨ (¬ d8.toInt = 1 ∧ d8.toInt = cvA V)), ⟨rfl, rfl, rfl, rfl, PKf_rf, fun _ _ _ => rfl, 0, Nat.zero_le _, by decide, Or.inl ⟨by decide, hV⟩⟩, ?_⟩
  rintro d1 d2 d3 d4 d5 d6 d7 d8 d9 t ⟨e1, e2, e3, e4, t1, t2, i, j1, j2, j3⟩
  subst e1 e2 e3 e4
  unfold ub_196_72
  rw [h1, h4, r t1 245 (by decide), r t1 247 (by decide), l1]
  intro _
  refine ⟨fun w => f104 _ _ _ _ _ t t1 t2 ?_, fun w => ⟨fun w2 => f104 _ _ _ _ _ t t1 t2 ?_, fun w2 _ x1 hx1 _ x2 hx2 _ _ x3 hx3 _ x4 hx4 _ => ?_⟩⟩
  · have ei : i = (hd h).1 := by omega
    rw [ei, Nat.sub_self] at j3
    exact j3
  · rcases j3 with q | q
    · exact absurd q.1 w2
    · exact Or.inr q
  · rcases j3 with ⟨-, q2⟩ | q
    · have hi1 : i < (hd h).2.2.length := by omega
      have hi2 : i < (hd g).2.2.length := by omega
      have e2 : x2.toInt = 6 * (204 * b + (h : Int)) + (i : Int) := by omega
      have e4 : x4.toInt = 6 * (204 * b + (g : Int)) + (i : Int) := by omega
      rw [e2, e4]
      refine Par.imp (one t _ _ i t1 t2 hi1 hi2 (l7 i (by omega)) (m7 i (by omega))) ?_
      rintro v s' ⟨⟨p1, p2⟩, x7, rfl, hr⟩
      refine ⟨x7, rfl, fun _ x8 hx8 => ⟨rfl, rfl, rfl, rfl, p1, p2, i + 1, by omega, by omega, ?_⟩⟩
      rcases hr ((hd h).1 - i) (fun z => by omega) with ⟨k1, k2⟩ | ⟨k1, k2⟩
      · exact Or.inl ⟨k1, by rw [q2, k2, Nat.sub_sub]⟩
      · exact Or.inr ⟨k1, by rw [q2]; exact k2⟩
    · exact absurd w2 q.1
set_option maxHeartbeats 8000000 in
/-- alike -/
theorem x_196 (hG : PGr ar kd cf fs F H nT tm tn hd hb ow hw Bf b A s) (hbo : bOK β0 β1) (hT : (s.1 64).toInt = T) (hA : A ≤ T) (he : (s.1 70).toInt = (e : Int)) (h1 : a1.toInt = 204 * b + (h : Int)) (h4 : a4.toInt = 204 * b + (g : Int)) (hh : h < H) (hg : g < H) (h3 : a3.toInt = cb) (hB : TYe ar nT β0 β1 nX nY T s a2.toInt (cb :: B')) (hO : TYe ar nT β0 β1 nX nY T s a5.toInt (co :: O')) (hbh : hb h = 1000 + 6 * cb) (owh : ow h = cb) (owg : ow g = co) (h74 : (s.1 74).toInt = hb g) : Par d 196 [.ref 213, .int a1, .int a2, .int a3, .int a4, .int a5] s (ALq T (e : Int) (cvA (alkH (eta (argT ar (cb :: B')) sTn) (eta (argT ar (co :: O')) sTn) (hd h) (hd g))) s) := by
  cases d with
  | zero => exact Par_0
  | succ d =>
    obtain ⟨η, hη⟩ : ∃ η, η = eta (argT ar (cb :: B')) sTn := ⟨_, rfl⟩
    obtain ⟨θ, hθ⟩ : ∃ θ, θ = eta (argT ar (co :: O')) sTn := ⟨_, rfl⟩
    rw [← hη, ← hθ]
    have hGs := hG
    obtain ⟨⟨g75, gb, gA, gH, gF, gT⟩, -, -, -, gh, g0, ha, h24⟩ := hG
    obtain ⟨⟨⟨l1, l2⟩, ⟨l3, l4, l5⟩, l6, -⟩, lb, -⟩ := gh h hh
    obtain ⟨⟨⟨m1, m2⟩, ⟨m3, m4, m5⟩, m6, -⟩, mb, -⟩ := gh g hg
    obtain ⟨-, -, oB⟩ := argT_ok ha hB.2.2.1
    obtain ⟨-, -, oO⟩ := argT_ok ha hO.2.2.1
    have haB := ha cb
    have haO := ha co
    have h6B := ar_6 hGs (hB.2.2.2.2 cb List.mem_cons_self).1 (hB.2.2.2.1.2 cb List.mem_cons_self)
    have h6O := ar_6 hGs (hO.2.2.2.2 co List.mem_cons_self).1 (hO.2.2.2.1.2 co List.mem_cons_self)
    refine pb_196 ?_
    unfold ub_196_0
    rw [h1, h4, l1, m1]
    intro _ _
    refine ⟨fun w1 => ?_, fun w1 => ?_⟩
    · have enf : (hd h).1 = (hd g).1 := by omega
      obtain ⟨V, hV⟩ : ∃ V, V = alkL η θ (decide (¬ (hd h).2.1 = (hd g).2.1)) (hd h).1 (hd h).2.2 (hd g).2.2 := ⟨_, rfl⟩
      have eV : alkH η θ (hd h) (hd g) = V := by
        unfold alkH
        rw [if_pos enf, hV]
      rw [eV]
      refine Par.imp (nw_188 he) ?_
      rintro v2 s1 ⟨x3, rfl, n1, n2, n3, n4, n5, n6, n7⟩
      refine ⟨x3, rfl, fun _ x4 hx4 _ x5 hx5 => ?_⟩
      refine Par.imp (gr_189 ha h6B (TYe_w (n4 T) hB) n1) ?_
      rintro v7 s6 ⟨rfl, F6, c6, k6, G6⟩
      have f6 : s6.1 = s1.1 := F6.1
      have e75 : (s6.1 75).toInt = b := by rw [f6, n3 75 (by decide)]; exact g75
      have W6 : WFr T (e : Int) s s6 := WFr_tr (n4 T) (WFr_gr F6 (by omega)) (Int.le_refl _) (Int.le_refl _)
      refine ⟨rfl, ?_⟩
      rw [e75]
      have e245 : (s6.2.1 245 (204 * b + (h : Int)).toNat).toInt = ((hd h).1 : Int) := by rw [W6.2.2.1 _ _ (by decide)]; exact l1
      intro _ x8 hx8 _ x9 hx9 _ x10 hx10 _ x11 hx11 _
      refine Par.imp (x_190 (g := 2 * e + 1) (N := (hd h).1) (by omega) e245 l3) ?_
      rintro v13 s12 ⟨rfl, F12, c12, k12, G12⟩
      have W12 : WFr T (e : Int) s s12 := WFr_tr W6 (WFr_gr F12 (by omega)) (Int.le_refl _) (Int.le_refl _)
      have E12 : EVr s12 e T (hb h) ((argT ar (cb :: B')).map (List.map (rhE ar β0 β1))) (2000 + 6 * (h : Int)) ((sTn.take (hd h).1).map (List.map (rhE ar β0 β1))) := ev_of h24 (by rw [c6, hbh]; omega) k6 G6 (by rw [List.length_map]; omega) F12 (by rw [c12]; omega) (by rw [k12]; exact e245) G12 (WFr_el W6 (by decide) (by show (0 : Int) + 6 ≤ T; omega) g0) (by omega) l3
      have he12 : (s12.1 70).toInt = ((e + 1 : Nat) : Int) := by rw [F12.1, f6, n2]; omega
      refine ⟨rfl, ?_⟩
      refine Par.imp (nw_188 he12) ?_
      rintro v15 s14 ⟨x16, rfl, p1, p2, p3, p4, p5, p6, p7⟩
      have W14 : WFr T (e : Int) s s14 := WFr_tr W12 (p4 T) (Int.le_refl _) (by omega)
      refine ⟨x16, rfl, ?_⟩
      refine Par.imp (gr_189 ha h6O (TYe_w W14 hO) p1) ?_
      rintro v18 s17 ⟨rfl, F17, c17, k17, G17⟩
      have f17 : s17.1 = s14.1 := F17.1
      have W17 : WFr T (e : Int) s s17 := WFr_tr W14 (WFr_gr F17 (by omega)) (Int.le_refl _) (Int.le_refl _)
      have f14 : ∀ k, ¬ k = 70 → s14.1 k = s.1 k := fun k hk => by rw [p3 k hk, F12.1, f6, n3 k hk]
      have e75' : (s17.1 75).toInt = b := by rw [f17, f14 75 (by decide)]; exact g75
      refine ⟨rfl, ?_⟩
      rw [e75']
      have e245' : (s17.2.1 245 (204 * b + (g : Int)).toNat).toInt = ((hd g).1 : Int) := by rw [W17.2.2.1 _ _ (by decide)]; exact m1
      intro _ x19 hx19 _ x20 hx20 _ x21 hx21 _ x22 hx22 _
      refine Par.imp (x_190 (g := 2 * (e + 1) + 1) (N := (hd g).1) (by omega) e245' m3) ?_
      rintro v24 s23 ⟨rfl, F23, c23, k23, G23⟩
      have W23 : WFr T (e : Int) s s23 := WFr_tr W17 (WFr_gr F23 (by omega)) (Int.le_refl _) (Int.le_refl _)
      have E23b : EVr s23 (e + 1) T (hb g) ((argT ar (co :: O')).map (List.map (rhE ar β0 β1))) (2000 + 6 * (g : Int)) ((sTn.take (hd g).1).map (List.map (rhE ar β0 β1))) := ev_of h24 (by rw [c17, f14 74 (by decide)]; exact h74) k17 G17 (by rw [List.length_map]; omega) F23 (by rw [c23]; omega) (by rw [k23]; exact e245') G23 (WFr_el W17 (by decide) (by show (0 : Int) + 6 ≤ T; omega) g0) (by omega) m3
      have E23a : EVr s23 e T (hb h) ((argT ar (cb :: B')).map (List.map (rhE ar β0 β1))) (2000 + 6 * (h : Int)) ((sTn.take (hd h).1).map (List.map (rhE ar β0 β1))) := by
        refine EVr_w (e1 := (e : Int) + 1) (s := s12) ?_ (by omega) (by rw [List.length_map]; omega) (by rw [List.length_map, stn_len l3]; exact l3) E12
        exact WFr_tr (WFr_mo (p4 T) (Int.le_refl _) (by omega)) (WFr_tr (WFr_gr F17 (by omega)) (WFr_gr F23 (by omega)) (Int.le_refl _) (Int.le_refl _)) (Int.le_refl _) (Int.le_refl _)
      have f23 : ∀ k, ¬ k = 70 → s23.1 k = s.1 k := fun k hk => by rw [F23.1, f17, f14 k hk]
      have h70 : (s23.1 70).toInt = (e : Int) + 2 := by rw [F23.1, f17, p2]; omega
      refine ⟨rfl, ?_⟩
      refine al_72 (e' := e + 1) (V := V) (XB := argT ar (cb :: B')) (XO := argT ar (co :: O')) (PGr_w W23 hA hGs) hbo (by rw [f23 64 (by decide)]; exact hT) hA h1 h4 hh hg n1 p1 E23a E23b (by rw [oB, owh]) (by rw [oO, owg]) (argT_cd ha hB.2.2.1 hB.2.2.2.2) (argT_cd ha hO.2.2.1 hO.2.2.2.2) enf (by rw [hV, hη, hθ]) (fun t0 y1 u s2 q1 q2 q3 q4 q5 => ?_)
      have Wu : WFr T (e : Int) s u := WFr_tr W23 (WFr_pk q1 (fun k _ w2 w3 => q2 k w2 w3)) (Int.le_refl _) (Int.le_refl _)
      refine ⟨WFr_tr Wu (by rw [q5]; exact WFr_sf (Or.inr (Or.inr ⟨by decide, by decide⟩))) (Int.le_refl _) (Int.le_refl _), ⟨?_, ?_, ?_⟩, t0, rfl, q3⟩
      · rw [q5, sfr_1, if_neg (by decide), q2 8 (by decide) (by decide), f23 8 (by decide)]
      · rw [q5, sfr_1, if_neg (by decide), q2 64 (by decide) (by decide), f23 64 (by decide)]
      · rw [q5, sfr_1, if_pos rfl, q4, q2 70 (by decide) (by decide), h70]
        omega
    · refine ⟨WFr_rf, ⟨rfl, rfl, he⟩, 0, rfl, ?_⟩
      have e7 : alkH η θ (hd h) (hd g) = 7 := by
        unfold alkH
        rw [if_neg (fun q => w1 (by rw [q]))]
      rw [e7]
      decide
end YSA
