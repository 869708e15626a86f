/-! ===== the reference: instances: addBody ===== -/
/-- what addBody may write -/
def IFc (T : Int) (e : Nat) (s s' : yS) : Prop := (∀ k, k ∉ [8, 64, 70, 71, 72, 73, 74, 78, 111, 112, 118] → s'.1 k = s.1 k) ∧ s'.2.2 = s.2.2 ∧ (∀ q j, (q < 264 ∨ (268 < q ∧ q < 279) ∨ 283 < q) → s'.2.1 q j = s.2.1 q j) ∧ ((∀ q j : Nat, (q = 265 ∨ q = 266) → j < 2 * e → s'.2.1 q j = s.2.1 q j) ∧ ∀ q j : Nat, (q = 267 ∨ q = 268) → j < 12 * e → s'.2.1 q j = s.2.1 q j) ∧ (∀ q j : Nat, 279 ≤ q → q ≤ 283 → (j : Int) < (s.1 112).toInt → s'.2.1 q j = s.2.1 q j) ∧ (∀ j : Nat, ((j : Int) < (s.1 118).toInt ∨ (100000 ≤ (j : Int) ∧ (j : Int) < T)) → s'.2.1 264 j = s.2.1 264 j) ∧ ((s.1 112).toInt ≤ (s'.1 112).toInt ∧ (s.1 118).toInt ≤ (s'.1 118).toInt) ∧ ((s.1 111).toInt = 0 → (s'.1 111).toInt = 0)
/-- of each METHOD that is there all is there -/
def BDn (ar : Int → Int) (cd : Int → List Ins) (its : List Mit) : Prop := ∀ (A : List Int) (f : Int) (Ts : List (List Int)), (2, A, f, Ts) ∈ its → dn ar (eta (argT ar A) Ts) its (cd f)
/-- the funcs' E, their code -/
def FNn (ar : Int → Int) (nT Z : Int) (wr hw : Nat → Int) (H F : Nat) (cf : Nat → Int) (fs : Nat → Nat) (hd : Nat → Nat × Nat × List (List Int)) (cd : Int → List Ins) (b : Int) (s : yS) : Prop := ∀ f : Nat, f < F → (∃ (fu : Nat) (C0 : List Ins), cd (f : Int) = C0 ++ [lvI] ∧ nNd ar (4000 + 6 * (f : Int)) (2000 + 6 * (fs f : Int)) Z wr hw H s fu (s.2.1 258 (60 * b + (f : Int)).toNat).toInt C0) ∧ bOK (4000 + 6 * (f : Int)) (2000 + 6 * (fs f : Int)) ∧ (∀ I ∈ cd (f : Int), gdI ar nT (ar (cf f)) ((hd (fs f)).1 : Int) I) ∧ ar (cf f) ≤ 6 ∧ (hd (fs f)).1 ≤ 6
section ZVW
variable {ar : Int → Int} {nT Z : Int} {wr hw : Nat → Int} {H F : Nat} {fx : Int → Int → Int} {Dr : Mit → Prop} {Bd : Prop} {its ws : List Mit} {s s' u w z : yS} {T T' b : Int} {e e' d : Nat} {cf : Nat → Int} {fs : Nat → Nat} {hd : Nat → Nat × Nat × List (List Int)} {cd : Int → List Ins} {E : List Int} {a1 a2 a3 a4 a5 a6 a7 a8 a9 a10 a11 a12 : Int32}
theorem IFc_rf : IFc T e s s := ⟨fun _ _ => rfl, rfl, fun _ _ _ => rfl, ⟨fun _ _ _ _ => rfl, fun _ _ _ _ => rfl⟩, fun _ _ _ _ _ => rfl, fun _ _ => rfl, ⟨Int.le_refl _, Int.le_refl _⟩, fun h => h⟩
theorem IFc_tr (h : IFc T e s u) (g : IFc T' e' u w) (hT : T ≤ T') (he : e ≤ e') : IFc T e s w := by
  obtain ⟨h1, h2, h3, ⟨h4, h5⟩, h6, h7, ⟨h8, h9⟩, h10⟩ := h
  obtain ⟨g1, g2, g3, ⟨g4, g5⟩, g6, g7, ⟨g8, g9⟩, g10⟩ := g
  exact ⟨fun k hk => (g1 k hk).trans (h1 k hk), g2.trans h2, fun q j hq => (g3 q j hq).trans (h3 q j hq), ⟨fun q j hq hj => (g4 q j hq (by omega)).trans (h4 q j hq hj), fun q j hq hj => (g5 q j hq (by omega)).trans (h5 q j hq hj)⟩, fun q j q1 q2 hj => (g6 q j q1 q2 (by omega)).trans (h6 q j q1 q2 hj), fun j hj => (g7 j (by omega)).trans (h7 j hj), ⟨by omega, by omega⟩, fun z => g10 (h10 z)⟩
theorem IFc_j (h : IFj T s u) : IFc T e s u := ⟨fun k hk => h.1 k (fun w => hk (by rw [w]; decide)) (fun w => hk (by rw [w]; decide)) (fun w => hk (by rw [w]; decide)) (fun w => hk (by rw [w]; decide)) (fun w => hk (by rw [w]; decide)) (fun w => hk (by rw [w]; decide)), h.2.1, fun q j hq => h.2.2.1 q j (by omega), ⟨fun q j hq _ => h.2.2.1 q j (by omega), fun q j hq _ => h.2.2.1 q j (by omega)⟩, h.2.2.2.1, h.2.2.2.2.1, h.2.2.2.2.2.1, h.2.2.2.2.2.2⟩
theorem IFc_w {e1 : Int} (h : WFr T e1 s u) (he : (e : Int) ≤ e1) (hM : (s.1 118).toInt ≤ T) : IFc T e s u := by
  obtain ⟨h1, h2, h3, h4, h5, h6⟩ := h
  have hk : ∀ k, k ∉ [8, 64, 70, 71, 72, 73, 74, 78, 111, 112, 118] → u.1 k = s.1 k := fun k hk => h1 k (fun w => hk (by rw [w]; decide)) (fun w => hk (by rw [w]; decide)) (fun w => hk (by rw [w]; decide)) (fun w => hk (by rw [w]; decide)) (fun w => hk (by rw [w]; decide)) (fun w => hk (by rw [w]; decide)) (fun w => hk (by rw [w]; decide))
  have o : ∀ k, k = 111 ∨ k = 112 ∨ k = 118 → u.1 k = s.1 k := fun k hk => h1 k (by omega) (by omega) (by omega) (by omega) (by omega) (by omega) (by omega)
  exact ⟨hk, h2, fun q j hq => h3 q j (by omega), ⟨fun q j hq hj => h5 q j hq (by omega), fun q j hq hj => h6 q j hq (by omega)⟩, fun q j q1 q2 _ => h3 q j (by omega), fun j hj => h4 j (by omega), ⟨by rw [o 112 (by decide)]; exact Int.le_refl _, by rw [o 118 (by decide)]; exact Int.le_refl _⟩, fun z => by rw [o 111 (by decide)]; exact z⟩
theorem IFc_sf {k : Nat} {v : Int32} (hk : k ∈ [8, 64, 70, 71, 72, 73, 74, 78]) : IFc T e s (sf s k v) := by
  have n1 : ¬ 111 = k ∧ ¬ 112 = k ∧ ¬ 118 = k := by
    simp only [List.mem_cons, List.not_mem_nil, or_false] at hk
    omega
  exact ⟨fun q hq => by rw [sfr_1, if_neg (fun w => hq (by rw [w]; simp only [List.mem_cons, List.not_mem_nil, or_false] at hk ⊢; omega))], rfl, fun _ _ _ => rfl, ⟨fun _ _ _ _ => rfl, fun _ _ _ _ => rfl⟩, fun _ _ _ _ _ => rfl, fun _ _ => rfl, ⟨by rw [sfr_1, if_neg n1.2.1]; exact Int.le_refl _, by rw [sfr_1, if_neg n1.2.2]; exact Int.le_refl _⟩, fun z => by rw [sfr_1, if_neg n1.1]; exact z⟩
/-- a cell of ty from the top on -/
theorem IFc_ty {j : Nat} {v : Int32} (h1 : (s.1 118).toInt ≤ (j : Int)) (h2 : 100000 ≤ (j : Int)) (h3 : T ≤ (j : Int)) : IFc T e s (sa s 264 j v) := ⟨fun _ _ => rfl, rfl, fun q i hq => by rw [sa_21, if_neg (fun w => by omega)], ⟨fun q i hq _ => by rw [sa_21, if_neg (fun w => by omega)], fun q i hq _ => by rw [sa_21, if_neg (fun w => by omega)]⟩, fun q i q1 q2 _ => by rw [sa_21, if_neg (fun w => by omega)], fun i hi => by rw [sa_21, if_neg (fun w => by omega)], ⟨Int.le_refl _, Int.le_refl _⟩, fun h => h⟩
/-- a cell of an env -/
theorem IFc_ev {q j : Nat} {v : Int32} (h : ((q = 265 ∨ q = 266) ∧ 2 * e ≤ j) ∨ ((q = 267 ∨ q = 268) ∧ 12 * e ≤ j)) : IFc T e s (sa s q j v) := ⟨fun _ _ => rfl, rfl, fun p i hp => by rw [sa_21, if_neg (fun w => by omega)], ⟨fun p i hp hi => by rw [sa_21, if_neg (fun w => by omega)], fun p i hp hi => by rw [sa_21, if_neg (fun w => by omega)]⟩, fun p i p1 p2 _ => by rw [sa_21, if_neg (fun w => by omega)], fun i _ => by rw [sa_21, if_neg (fun w => by omega)], ⟨Int.le_refl _, Int.le_refl _⟩, fun h => h⟩
theorem IFc_el (h : IFc T e s s') {p : Int} (h0 : 0 ≤ p) (hp : p + (E.length : Int) ≤ (s.1 118).toInt ∨ (100000 ≤ p ∧ p + (E.length : Int) ≤ T)) (g : RWel s p E) : RWel s' p E := fun i c hc => by
  have hi := (List.getElem?_eq_some_iff.mp hc).1
  rw [← g i c hc, KI_p (by omega), KI_p (by omega), h.2.2.2.2.2.1 _ (by omega)]
theorem IFc_r (h : IFc T e s s') {q : Nat} (hq : q < 264 ∨ (268 < q ∧ q < 279)) : s'.2.1 q = s.2.1 q := funext fun j => h.2.2.1 q j (by omega)
theorem RIl_c (h : RIl ar nT wr hw H fx Dr Bd its s) (F : IFc T e s s') (h12 : s'.1 112 = s.1 112) (h18 : s'.1 118 = s.1 118) (hf : (s'.1 111).toInt = 0 → Bd ∨ ∃ y, Dr y ∧ ¬ y ∈ its ∧ its.length = 150) : RIl ar nT wr hw H fx Dr Bd its s' := RIl_f h h12 h18 (fun q j q1 q2 hj => F.2.2.2.2.1 q j q1 q2 (by have := h.1.1; omega)) (fun j _ hj => F.2.2.2.2.2.1 j (Or.inl hj)) hf
theorem FNn_c (F' : IFc T e s s') (hZ : Z ≤ (s.1 118).toInt) (h : FNn ar nT Z wr hw H F cf fs hd cd b s) : FNn ar nT Z wr hw H F cf fs hd cd b s' := fun f hf => by
  obtain ⟨⟨fu, C0, h1, h2⟩, h3⟩ := h f hf
  refine ⟨⟨fu, C0, h1, ?_⟩, h3⟩
  rw [IFc_r F' (q := 258) (by decide)]
  exact nNd_q (fun q hq => IFc_r F' (by omega)) (fun j hj => F'.2.2.2.2.2.1 j (Or.inl (by omega))) fu _ C0 h2
/-- an element of a row of TYPES -/
theorem fl_atI : ∀ (X : List (List Int)) (i : Nat) (B : List Int), X[i]? = some B → ∀ (j : Nat) (c : Int), B[j]? = some c → X.flatten[(X.take i).flatten.length + j]? = some c
  | [], i, B, h, _, _, _ => by cases h
  | A :: X, 0, B, h, j, c, hj => by
    have e : A = B := by simpa using h
    rw [← e] at hj
    have hl := (List.getElem?_eq_some_iff.mp hj).1
    rw [List.flatten_cons]
    show (A ++ X.flatten)[0 + j]? = some c
    rw [Nat.zero_add, List.getElem?_append_left hl]
    exact hj
  | A :: X, i + 1, B, h, j, c, hj => by
    have ih := fl_atI X i B h j c hj
    rw [List.take_succ_cons, List.flatten_cons, List.flatten_cons, List.length_append, Nat.add_assoc, List.getElem?_append_right (by omega), show A.length + ((X.take i).flatten.length + j) - A.length = (X.take i).flatten.length + j by omega]
    exact ih
/-- funcOf -/
theorem x_246 (h75 : (s.1 75).toInt = b) : Par d 246 [.ref 213, .int a1] s (fun v s' => s' = s ∧ ∃ r : Int32, v = some (.int r) ∧ (60 * b ≤ r.toInt ∧ 0 ≤ r.toInt) ∧ (s.2.1 257 r.toInt.toNat).toInt = a1.toInt ∧ ∀ j : Nat, 60 * b ≤ (j : Int) → (j : Int) < r.toInt → ¬ (s.2.1 257 j).toInt = a1.toInt) := by
  cases d with
  | zero => exact Par_0
  | succ d =>
    refine pb_246 ?_
    unfold ub_246_0
    intro _ x1 hx1
    refine ⟨fun b1 b2 u => b1 = a1 ∧ u = s ∧ 60 * b ≤ b2.toInt ∧ ∀ j : Nat, 60 * b ≤ (j : Int) → (j : Int) < b2.toInt → ¬ (s.2.1 257 j).toInt = a1.toInt, ⟨rfl, rfl, by omega, fun j j1 j2 => by omega⟩, ?_⟩
    rintro b1 b2 u ⟨e1, e2, i1, i2⟩
    subst e1 e2
    unfold ub_246_5
    refine fun kb => ⟨fun h => ⟨rfl, b2, rfl, ⟨i1, kb.1⟩, h, i2⟩, fun h _ x2 hx2 => ⟨rfl, rfl, by omega, fun j j1 j2 => ?_⟩⟩
    by_cases ej : (j : Int) = b2.toInt
    · rw [show j = b2.toInt.toNat by omega]
      exact h
    · exact i2 j j1 (by omega)
set_option maxHeartbeats 2000000 in
/-- what is told is put into the env; the func's E -/
theorem m256c {kf : Nat} {A : List Int} {Ts : List (List Int)} {P2 : Int} {Q : Option Value → yS → Prop} (hall : ∀ fu, AEn ar nT (4000 + 6 * (kf : Int)) (2000 + 6 * (fs kf : Int)) Z wr hw H fx Dr Bd (argT ar A, Ts) fu) (hZ : Z ≤ 13000) (ha : ∀ c, 0 ≤ ar c ∧ ar c ≤ 7) (hI : RIl ar nT wr hw H fx Dr Bd its z) (hN : FNn ar nT Z wr hw H F cf fs hd cd b z) (hkf : kf < F) (hb : 0 ≤ b ∧ b < 2) (hC : okC ar nT ((argT ar A).length : Int) (Ts.length : Int) Dr Bd (eta (argT ar A) Ts) (cd (kf : Int))) (hTs : ∀ B ∈ Ts, TGo ar nT 0 0 B) (hT6 : (argT ar A).length ≤ 6 ∧ Ts.length ≤ 6) (z64 : (z.1 64).toInt = T) (hP2 : 100000 ≤ P2 ∧ P2 + (Ts.flatten.length : Int) ≤ T) (hw2 : RWel z P2 (enI ar Ts.flatten)) (h9 : a9.toInt = 60 * b + (kf : Int)) (h10 : a10.toInt = (e : Int)) (h11 : a11.toInt = 2 * (e : Int) + 1) (h12 : a12.toInt = P2) (z1 : (z.2.1 265 (2 * e)).toInt = 4000 + 6 * (kf : Int) ∧ (z.2.1 266 (2 * e)).toInt = ((argT ar A).length : Int) ∧ GRe z (2 * e) T ((argT ar A).map (enI ar)) (argT ar A).length) (z2 : (z.2.1 265 (2 * e + 1)).toInt = 2000 + 6 * (fs kf : Int)) (z3 : (z.2.1 266 (2 * e + 1)).toInt = (Ts.length : Int)) (zlo : ∀ i : Nat, i < (argT ar A).length → 100000 ≤ (z.2.1 267 (12 * e + i)).toInt) (hQ : ∀ s', IFc 100000 e z s' → s'.1 64 = a5 → s'.1 78 = z.1 78 → (s'.1 70).toInt = (z.1 70).toInt - 1 → (∃ ws, RIl ar nT wr hw H fx Dr Bd (its ++ ws) s' ∧ (¬ (s'.1 111).toInt = 0 → dn ar (eta (argT ar A) Ts) (its ++ ws) (cd (kf : Int)))) → Q none s') : ubl_256_189 (Par d) a1 a2 a3 a4 a5 a6 a7 a8 a9 a10 a11 a12 0 z Q := by
  obtain ⟨M1, M2⟩ := RIl_M hI
  refine ⟨fun c1 c2 c3 c4 c5 c6 c7 c8 c9 c10 c11 c12 c13 t => c5 = a5 ∧ c9 = a9 ∧ c10 = a10 ∧ c11 = a11 ∧ t.1 = z.1 ∧ t.2.2 = z.2.2 ∧ (∀ q j, ¬ ((q = 267 ∨ q = 268) ∧ 12 * e + 6 ≤ j) → t.2.1 q j = z.2.1 q j) ∧ ∃ k : Nat, c13.toInt = (k : Int) ∧ k ≤ Ts.length ∧ c12.toInt = P2 + ((Ts.take k).flatten.length : Int) ∧ ∀ (i : Nat) (B : List Int), i < k → Ts[i]? = some B → (t.2.1 267 (12 * e + 6 + i)).toInt = P2 + ((Ts.take i).flatten.length : Int) ∧ (t.2.1 268 (12 * e + 6 + i)).toInt = (B.length : Int), ⟨rfl, rfl, rfl, rfl, rfl, rfl, fun _ _ _ => rfl, 0, by decide, Nat.zero_le _, by rw [h12]; show P2 = P2 + ((0 : Nat) : Int); omega, fun i B hi => absurd hi (Nat.not_lt_zero _)⟩, ?_⟩
  rintro c1 c2 c3 c4 c5 c6 c7 c8 c9 c10 c11 c12 c13 t ⟨e5, e9, e10, e11, t1, t2, t3, k, k1, k2, k3, k4⟩
  have e5 := e5.symm
  have e9 := e9.symm
  have e10 := e10.symm
  have e11 := e11.symm
  subst e5 e9 e10 e11
  have t64 : ∀ j, t.2.1 264 j = z.2.1 264 j := fun j => t3 264 j (by omega)
  have wt : RWel t P2 (enI ar Ts.flatten) := fun i c hc => by
    have hi := (List.getElem?_eq_some_iff.mp hc).1
    rw [← hw2 i c hc, KI_p (by omega), KI_p (by omega), t64]
  have Ft : ∀ T', IFc T' e z t := fun T' => ⟨fun _ _ => by rw [t1], t2, fun q j hq => t3 q j (by omega), ⟨fun q j hq _ => t3 q j (by omega), fun q j hq hj => t3 q j (by omega)⟩, fun q j q1 q2 _ => t3 q j (by omega), fun j _ => t64 j, ⟨by rw [t1]; exact Int.le_refl _, by rw [t1]; exact Int.le_refl _⟩, fun w => by rw [t1]; exact w⟩
  unfold ub_256_189
  rw [show a11.toInt.toNat = 2 * e + 1 by omega, t3 266 (2 * e + 1) (by omega)]
  refine fun _ => ⟨fun hend s1 hs1 _ => ?_, fun hmore _ x8 hx8 _ x9 hx9 kb9 s10 hs10 _ x11 hx11 _ x12 hx12 => ?_⟩
  · have ek : k = Ts.length := by omega
    have F1 : ∀ q, s1.1 q = if q = 78 then a9 else z.1 q := fun q => by rw [hs1, sfr_1, t1]
    have r1 : s1.2 = t.2 := by rw [hs1, sfr_2]
    have Fs : ∀ T', IFc T' e z s1 := fun T' => IFc_tr (Ft T') (by rw [hs1]; exact IFc_sf (T := T') (by decide)) (Int.le_refl _) (Nat.le_refl _)
    have I1 : RIl ar nT wr hw H fx Dr Bd its s1 := RIl_c hI (Fs 0) (by rw [F1, if_neg (by decide)]) (by rw [F1, if_neg (by decide)]) (fun w => hI.2.2.2.2 (by rw [F1, if_neg (by decide)] at w; exact w))
    obtain ⟨⟨fu, C0, n1, n2⟩, n3, n4, n5⟩ := FNn_c (Fs 0) (by omega) hN kf hkf
    have hmp : ((argT ar A).map (enI ar)).length = (argT ar A).length := List.length_map _
    have hmT : (Ts.map (enI ar)).length = Ts.length := List.length_map _
    have V1 : EVn ar s1 e T (4000 + 6 * (kf : Int)) (2000 + 6 * (fs kf : Int)) (argT ar A, Ts) := by
      have cc : ∀ q j, ¬ ((q = 267 ∨ q = 268) ∧ 12 * e + 6 ≤ j) → s1.2.1 q j = z.2.1 q j := fun q j h => by rw [r1, t3 q j h]
      refine ⟨4000 + 6 * (kf : Int), 2000 + 6 * (fs kf : Int), ⟨⟨by rw [cc _ _ (by omega)]; exact z1.1, by rw [cc _ _ (by omega), hmp]; exact z1.2.1, fun i Y hi hY => ?_⟩, by rw [cc _ _ (by omega)]; exact z2, by rw [cc _ _ (by omega), hmT]; exact z3, fun i Y hi hY => ?_⟩, Or.inr ⟨rfl, rfl, n3⟩, fun i hi => ?_, fun i hi => ?_⟩
      · rw [hmp] at hi
        obtain ⟨x, y1, y2, y3, y4⟩ := z1.2.2 i Y hi hY
        refine ⟨x, by rw [cc _ _ (by omega)]; exact y1, by rw [cc _ _ (by omega)]; exact y2, y3, fun j c hc => ?_⟩
        have hj := (List.getElem?_eq_some_iff.mp hc).1
        rw [← y4 j c hc, KI_p (by omega), KI_p (by omega), r1, t64]
      · rw [hmT] at hi
        rw [List.getElem?_map] at hY
        obtain ⟨B, hB, rfl⟩ := Option.map_eq_some_iff.mp hY
        have hB : Ts[i]? = some B := hB
        obtain ⟨y1, y2⟩ := k4 i B (by omega) hB
        have hle := fl_le Ts (i + 1)
        have htk := fl_take hB
        refine ⟨(t.2.1 267 (12 * e + 6 + i)).toInt, by rw [r1, show 6 * (2 * e + 1) + i = 12 * e + 6 + i by omega], by rw [r1, show 6 * (2 * e + 1) + i = 12 * e + 6 + i by omega, enI_len]; exact y2, by rw [y1, enI_len]; omega, fun j c hc => ?_⟩
        have hj := (List.getElem?_eq_some_iff.mp hc).1
        unfold enI at hc
        rw [List.getElem?_map] at hc
        obtain ⟨c', hc', rfl⟩ := Option.map_eq_some_iff.mp hc
        have hfl := fl_atI Ts i B hB j c' hc'
        have := wt ((Ts.take i).flatten.length + j) (rhE ar 1000 2000 c') (by
          unfold enI
          rw [List.getElem?_map, hfl]
          rfl)
        rw [y1, KI_p (by omega), r1, ← this, KI_p (by omega), show (P2 + ((Ts.take i).flatten.length : Int) + (j : Int)).toNat = (P2 + (((Ts.take i).flatten.length + j : Nat) : Int)).toNat by omega]
      · show 100000 ≤ (s1.2.1 267 (12 * e + i)).toInt
        have hi' : i < (argT ar A).length := hi
        rw [cc _ _ (by omega)]
        exact zlo i hi'
      · have hi' : i < Ts.length := hi
        obtain ⟨B, hB⟩ : ∃ B, Ts[i]? = some B := ⟨_, List.getElem?_eq_getElem hi'⟩
        rw [r1, (k4 i B (by omega) hB).1]
        omega
    have m0 : ∀ I ∈ C0, I ∈ cd (kf : Int) := fun I hI' => by
      rw [n1]
      exact List.mem_append_left _ hI'
    have e258 : (60 * b + (kf : Int)).toNat = a9.toInt.toNat := by omega
    rw [e258] at n2
    refine Par.imp (hall fu d s1 _ a10 e T its C0 n2 V1 (by rw [F1, if_neg (by decide)]; exact z64) (by omega) I1 (okC_s m0 hC) h10) ?_
    rintro v g ⟨rfl, Fg, g64, ws, Ig, hg⟩
    refine ⟨rfl, fun s4 hs4 _ x5 hx5 s6 hs6 s7 hs7 => ?_⟩
    have F7 : ∀ q, s7.1 q = if q = 64 then a5 else if q = 70 then x5 else if q = 78 then t.1 78 else g.1 q := fun q => by rw [hs7, sfr_1, hs6, sfr_1, hs4, sfr_1]
    have r7 : s7.2 = g.2 := by rw [hs7, sfr_2, hs6, sfr_2, hs4, sfr_2]
    have Fg7 : IFc 100000 e g s7 := IFc_tr (u := s4) (by rw [hs4]; exact IFc_sf (T := 100000) (by decide)) (IFc_tr (u := s6) (by rw [hs6]; exact IFc_sf (T := 100000) (by decide)) (by rw [hs7]; exact IFc_sf (T := 100000) (by decide)) (Int.le_refl _) (Nat.le_refl _)) (Int.le_refl _) (Nat.le_refl _)
    have F7z : IFc 100000 e z s7 := IFc_tr (Fs 100000) (IFc_tr (IFc_j (e := e) (IFj_T Fg (by omega))) Fg7 (Int.le_refl _) (Nat.le_refl _)) (Int.le_refl _) (Nat.le_refl _)
    have h70 : g.1 70 = z.1 70 := by rw [Fg.1 70 (by decide) (by decide) (by decide) (by decide) (by decide) (by decide), F1, if_neg (by decide)]
    refine hQ s7 F7z (by rw [F7, if_pos rfl]) (by rw [F7, if_neg (by decide), if_neg (by decide), if_pos rfl, t1]) ?_ ⟨ws, RIl_c Ig Fg7 (by rw [F7, if_neg (by decide), if_neg (by decide), if_neg (by decide)]) (by rw [F7, if_neg (by decide), if_neg (by decide), if_neg (by decide)]) (fun w => Ig.2.2.2.2 (by rw [F7, if_neg (by decide), if_neg (by decide), if_neg (by decide)] at w; exact w)), fun w => ?_⟩
    · rw [F7, if_neg (by decide), if_pos rfl, hx5, hs4, sfr_1, if_neg (by decide), h70]
    · rw [F7, if_neg (by decide), if_neg (by decide), if_neg (by decide)] at w
      rw [n1]
      exact dn_app (hg w) (dn_1 (show ¬ (0 : Int) = 2 by decide) (show ¬ (0 : Int) = 6 by decide) (show ¬ (0 : Int) = 5 by decide))
  · have hk : k < Ts.length := by omega
    obtain ⟨B, hB⟩ : ∃ B, Ts[k]? = some B := ⟨_, List.getElem?_eq_getElem hk⟩
    have tB := hTs B (List.mem_of_getElem? hB)
    have hle := fl_le Ts (k + 1)
    have htk := fl_take hB
    have e9 : x9.toInt.toNat = 12 * e + 6 + k := by omega
    have e12 : x12.toInt.toNat = 12 * e + 6 + k := by omega
    rw [e9] at hs10
    have c10 : ∀ q j, ¬ (q = 267 ∧ j = 12 * e + 6 + k) → s10.2.1 q j = t.2.1 q j := fun q j h => by rw [hs10, sa_21, if_neg h]
    have wB : ∀ f0 : yS, (∀ j, f0.2.1 264 j = z.2.1 264 j) → RWel f0 c12.toInt (enI ar B) := fun f0 hf0 j c hc => by
      have hj := (List.getElem?_eq_some_iff.mp hc).1
      unfold enI at hc
      rw [List.getElem?_map] at hc
      obtain ⟨c', hc', rfl⟩ := Option.map_eq_some_iff.mp hc
      have hfl := fl_atI Ts k B hB j c' hc'
      have := hw2 ((Ts.take k).flatten.length + j) (rhE ar 1000 2000 c') (by
        unfold enI
        rw [List.getElem?_map, hfl]
        rfl)
      rw [KI_p (by omega), hf0, ← this, KI_p (by omega), show (c12.toInt + (j : Int)).toNat = (P2 + (((Ts.take k).flatten.length + j : Nat) : Int)).toNat by omega]
    have c10t : ∀ j, s10.2.1 264 j = z.2.1 264 j := fun j => by rw [c10 264 j (by omega), t64]
    refine Par.imp (x_186 (E := enI ar B) (isR_enI ha tB.1) (wB s10 c10t)) ?_
    rintro v13 s13 ⟨hs13, x15, rfl, hx15⟩
    subst hs13
    rw [enI_len] at hx15
    refine ⟨x15, rfl, fun _ x16 hx16 _ s17 hs17 => ?_⟩
    rw [e12] at hs17
    have c17 : ∀ q j, ¬ (q = 268 ∧ j = 12 * e + 6 + k) → s17.2.1 q j = s13.2.1 q j := fun q j h => by rw [hs17, sa_21, if_neg h]
    refine Par.imp (x_186 (E := enI ar B) (isR_enI ha tB.1) (wB s17 (fun j => by rw [c17 264 j (by omega)]; exact c10t j))) ?_
    rintro v18 s18 ⟨hs18, x20, rfl, hx20⟩
    subst hs18
    rw [enI_len] at hx20
    refine ⟨x20, rfl, fun _ x21 hx21 => ⟨rfl, rfl, rfl, rfl, ?_, ?_, fun q j h => by rw [c17 q j (by omega), c10 q j (by omega)]; exact t3 q j h, k + 1, by omega, by omega, by omega, fun i B' hi hB' => ?_⟩⟩
    · rw [hs17, sa_1r, hs10, sa_1r]
      exact t1
    · rw [hs17, hs10]
      exact t2
    · by_cases ei : i = k
      · rw [ei] at hB' ⊢
        rw [hB] at hB'
        rw [← Option.some.inj hB']
        refine ⟨?_, ?_⟩
        · rw [c17 267 _ (by omega), hs10, sa_21, if_pos ⟨rfl, rfl⟩]
          exact k3
        · rw [hs17, sa_21, if_pos ⟨rfl, rfl⟩]
          omega
      · obtain ⟨y1, y2⟩ := k4 i B' (by omega) hB'
        refine ⟨?_, ?_⟩
        · rw [c17 267 _ (by omega), c10 267 _ (by omega)]
          exact y1
        · rw [c17 268 _ (by omega), c10 268 _ (by omega)]
          exact y2
end ZVW
