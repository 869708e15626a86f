/-! ===== program: its functions, its main ===== -/
section PF
variable {Lg Lg' : (Nat → Nat → Int64) → Prop}
variable {own : Nat → Nat × Nat} {b n W N T F H S0 : Nat} {G : PG} {S O : Nat} {z s s' u : yS}
theorem TB_fr {ks : List Nat} {lo hi S' O' : Nat} (hW : TB own b n W N T F H S0 G S O s) (hF : TFr ks b lo hi S 100000 0 O s s') (hk : 75 ∉ ks) (ho : ∀ x, lo ≤ x → x < hi → (own x).1 ∉ slR) (h8 : 0 ≤ (s'.1 8).toInt ∧ (s'.1 8).toInt ≤ 70000) (h65 : (s'.1 65).toInt = (S' : Int)) (h85 : (s'.1 85).toInt = (O' : Int)) (hS : S ≤ S') (hS2 : S' ≤ 10 + 4100 * (b + 1)) (hO : O ≤ O') : TB own b n W N T F H S0 G S' O' s' := by
  obtain ⟨c1, c2, c3, c4, c5, c6, c7, c8, c9⟩ := hW
  have hb := c1.1.1
  have hS8 : S ≤ 8210 := z41 c8 hb
  refine ⟨CK_eq c1 (TF_NL hF) (fun y y1 y2 y3 => ?_) (fun j hj => ?_) (fun i _ _ => by rw [TF_row hF (by decide)]) hF.2.2.2.1 hF.2.2.2.2 (by rw [hF.1 75 hk]; exact c1.2.2.2.2.2.2.1), Lx_eq c2 (TF_row hF (by decide)) (TF_row hF (by decide)) (TF_row hF (by decide)), h8, h65, h85, by omega, by omega, hS2, by omega⟩
  · have ny : ¬ (lo ≤ y ∧ y < hi) := fun w => ho y w.1 w.2 y3
    exact ⟨hF.2.1 231 y (fun w => ny w.2) (fun w => by omega) (fun w => by omega) (fun w => by omega) (fun w => by omega), hF.2.1 232 y (fun w => ny w.2) (fun w => by omega) (fun w => by omega) (fun w => by omega) (fun w => by omega)⟩
  · exact hF.2.1 264 j (fun w => by omega) (fun w => by omega) (fun w => by omega) (fun w => by omega) (fun w => by omega)
/-- k functions are typed -/
def FIk (own : Nat → Nat × Nat) (b n W N T F H S0 : Nat) (G : PG) (k : Nat) (u : yS) : Prop := ∃ (S O : Nat) (D : Nat × Nat → Bool), TB own b n W N T F H S0 G S O u ∧ S ≤ 10 + 4100 * b + cnt own D (4002 * b) N ∧ O ≤ 60000 * b + 60 * cntM own D u (4002 * b) N ∧ (∀ f, k ≤ f → D (258, 60 * b + f) = false) ∧ D (259, b) = false ∧ (u.1 70).toInt = 0 ∧ (∀ f, f < k → ∃ (e l h : Nat) (A : List Nat), (u.2.1 258 (60 * b + f)).toInt = (e : Int) ∧ 4002 * b ≤ l ∧ h ≤ N ∧ wE G H b n (scX G (some f)) (tVX G (some f)) S O u 11 l h e A ∧ impl G A (ght G (gfh G f)) ∧ l < h ∧ ∀ x, l ≤ x → x < h → own x = (258, 60 * b + f)) ∧ ES own b n N u 259 b ∧ N ≤ 4002 * b + 2760 ∧ cM u (4002 * b) N ≤ 1000
/-- two rows of nodes that belong to two lie one behind the other -/
theorem apart {p q : Nat × Nat} {l h l' h' : Nat} (hpq : ¬ p = q) (h1 : l < h) (h2 : l' < h') (o1 : ∀ x, l ≤ x → x < h → own x = p) (o2 : ∀ x, l' ≤ x → x < h' → own x = q) : h ≤ l' ∨ h' ≤ l := by
  by_cases w : h ≤ l'
  · exact Or.inl w
  · refine Or.inr ?_
    by_cases w' : h' ≤ l
    · exact w'
    · refine absurd ?_ hpq
      by_cases c : l ≤ l'
      · rw [← o1 l' c (by omega), o2 l' (by omega) h2]
      · rw [← o1 l (by omega) h1, o2 l (by omega) (by omega)]
theorem nlR {q i : Nat} (h : q = 258 ∨ q = 259) : ((q, i) : Nat × Nat).1 ∉ slR := by
  rcases h with rfl | rfl
  · show (258 : Nat) ∉ slR
    decide
  · show (259 : Nat) ∉ slR
    decide
theorem ES_tf {ks : List Nat} {lo hi : Nat} {q i : Nat} (h : ES own b n N s q i) (hF : TFr ks b lo hi S 100000 0 O s s') (hq : q ∉ [226, 230, 231, 232, 264, 265, 266, 267, 268, 270, 271, 272]) : ES own b n N s' q i := by
  obtain ⟨e, l, h', h1, h2, h3, h4, h5⟩ := h
  exact ⟨e, l, h', by rw [TF_row hF hq]; exact h1, h2, h3, isE_tf hF h4, h5⟩
theorem PF_tf {ks : List Nat} {lo hi : Nat} (hF : PFm Lg b z u) (h : TFr ks b lo hi S 100000 0 O u s') (hk : ∀ k, k ∈ ks → k ∈ pK) (h30 : 30 ∉ ks ∧ 2 ∉ ks ∧ 26 ∉ ks) (h1 : 4002 * b ≤ lo) (h2 : hi ≤ 4002 * (b + 1)) (hS : 10 + 4100 * b ≤ S) (hO : 60000 * b ≤ O) (h8 : 0 ≤ (s'.1 8).toInt ∧ (s'.1 8).toInt ≤ 70000) : PFm Lg b z s' := by
  obtain ⟨f1, f2, f3, f4, f5, f6, f7, f8, f9⟩ := hF
  refine ⟨BKF_tr f1 (BKF_tfr h h1 h2 hS (Nat.le_refl _) hO), fun k hk' => (h.1 k (fun w => hk' (hk k w))).trans (f2 k hk'), h.2.2.2.1, h.2.2.2.2, fun a ha => ?_, h8, by rw [h.1 30 h30.1]; exact f7, f8, ⟨by rw [h.2.2.1]; exact f9.1, by rw [TF_row h (by decide)]; exact f9.2.1, by rw [h.1 2 h30.2.1, h.1 26 h30.2.2]; exact f9.2.2⟩⟩
  have := f5 a ha
  unfold tyE at this ⊢
  rw [h.2.1 264 a (fun w => by omega) (fun w => by omega) (fun w => by omega) (fun w => by omega) (fun w => by omega)]
  exact this
theorem p167 {d e l h p : Nat} {A : List Nat} {a1 : Int32} (hLW : ∀ l, Lg' l → Lg l ∧ WKp b W l) (hF : PFm Lg' b z u) (hG : (u.1 8).toInt = 0 → CK own b n N T F H S0 G u ∧ Lx b n W u ∧ PT b n N F H G S O u ∧ S ≤ 10 + 4100 * (b + 1) ∧ O ≤ 60000 * (b + 1) ∧ N ≤ 4002 * b + 2760 ∧ (u.2.1 259 b).toInt = (e : Int) ∧ 4002 * b ≤ l ∧ h ≤ N ∧ wE G H b n (scX G none) (tVX G none) S O u 11 l h e A ∧ (u.1 80).toInt = (p : Int) ∧ (u.1 81).toInt = (A.length : Int) ∧ seg u p A.length = A ∧ p + A.length ≤ 199999 ∧ (u.1 65).toInt ≤ 10 + 4100 * ((b : Int) + 1)) : w_230_167 (Tot (d + 1)) a1 u (PQ Lg b z) := by
  unfold w_230_167
  refine ⟨fun hne => p207 hLW hF hne, fun h0 => ?_⟩
  obtain ⟨k1, k2, k3, k4, k5, k6, k7, k8, k9, k10, k11, k12, k13, k14, k15⟩ := hG h0
  exact p172 hLW hF h0 k1 k2 k3 k4 k5 k6 k7 k8 k9 k10 k11 k12 k13 k14 k15
theorem p149 {a1 : Int32} (hLW : ∀ l, Lg' l → Lg l ∧ WKp b W l) (hF : PFm Lg' b z u) (hG : (u.1 8).toInt = 0 → FIk own b n W N T F H S0 G F u) : w_230_149 (Tot 571) a1 u (PQ Lg b z) := by
  unfold w_230_149
  refine ⟨fun hne => ?_, fun h0 => ?_⟩
  · unfold w_230_167
    exact ⟨fun _ => p207 hLW hF hne, fun w => absurd w hne⟩
  · obtain ⟨S, O, D, k1, k2, k3, k4, k5, k6, k7, ⟨e, l, h, e1, e2, e3, e4, e5⟩, k9, k10⟩ := hG h0
    obtain ⟨f1, f2, f3, f4, f5, f6, f7, f8, f9⟩ := id hF
    obtain ⟨c1, c2, c3, c4, c5, c6, c7, c8, c9⟩ := id k1
    have hS100 : S ≤ 100000 := Nat.le_trans (z41 c8 c1.1.1) (by decide)
    have hlt := isE_lt e4
    have hS := cnt_add (own := own) (D := D) (D' := addD D (259, b)) (lo := 4002 * b) (N := N) (q := (259, b)) e2 (by omega) e3 e5 k5 (by unfold addD; simp) (fun p hp => by unfold addD; rw [hp]; rfl)
    have hS1 := cnt_le (own := own) (D := addD D (259, b)) (lo := 4002 * b) (N := N)
    have hO := cntM_add (own := own) (D := D) (D' := addD D (259, b)) (s := u) (lo := 4002 * b) (N := N) (q := (259, b)) e2 (by omega) e3 e5 k5 (by unfold addD; simp) (fun p hp => by unfold addD; rw [hp]; rfl)
    have hO1 := cntM_le (own := own) (D := addD D (259, b)) (s := u) (lo := 4002 * b) (N := N)
    have oS : ∀ x, l ≤ x → x < h → (own x).1 ∉ slR := fun x x1 x2 => by rw [e5 x x1 x2]; exact nlR (Or.inr rfl)
    refine Tot.imp (Tot.mono (by omega) (s_206 (d := 0))) ?_
    rintro v s1 ⟨rfl, rfl⟩
    refine ⟨rfl, ?_⟩
    rintro s3 rfl
    obtain ⟨t, ht⟩ : ∃ t, t = sf (sf (sf (sf u 76 (-1)) 77 (-1)) 78 (-1)) 64 100000 := ⟨_, rfl⟩
    rw [← ht]
    have t2 : t.2 = u.2 := by rw [ht]; rfl
    have tk : ∀ k, k ∉ [64, 76, 77, 78] → t.1 k = u.1 k := by
      intro k hk
      rw [ht, sf_1, if_neg (fun w => hk (by rw [w]; decide)), sf_1, if_neg (fun w => hk (by rw [w]; decide)), sf_1, if_neg (fun w => hk (by rw [w]; decide)), sf_1, if_neg (fun w => hk (by rw [w]; decide))]
    have Wt : TW own b n W N T F H S0 G none S O 100000 0 t := TB_TW k1 t2 (fun k hk => tk k (fun w => hk (by clear hk; revert k; decide))) (by rw [ht]; rfl) (by rw [tk 70 (by decide)]; exact k6) ⟨by rw [ht]; rfl, by rw [ht]; rfl, by rw [ht]; rfl⟩
    have Ft : TFr tFK b l h S 100000 0 O u t := ⟨fun k hk => tk k (fun w => hk (by clear hk; revert k; decide)), fun q i _ _ _ _ _ => by rw [t2], by rw [t2], fun i => by rw [t2]; exact f3 i, fun i => by rw [t2]; exact f4 i⟩
    have Et : isE b n t 11 l h e := isE_tf Ft e4
    have ecM : cM t l h = cM u l h := cM_eq (by rw [t2])
    have t30 : (t.1 30).toInt = (b : Int) := by rw [tk 30 (by decide)]; exact f7
    clear ht
    rw [show (t.1 30).toInt.toNat = b by omega, t2]
    refine ⟨by omega, ?_⟩
    refine Tot.imp (Tot.mono (by omega) (TEH_all 11 t _ l h e S O 100000 0 Wt ⟨e2, e3, by omega, oS, by omega, by rw [ecM]; omega, by omega, by omega⟩ Et e1)) ?_
    rintro v s4 ⟨rfl, F5, f5', S', O', P', q1, q2, q3, q4, q5, q6, q7, q8, q9, q10⟩
    rw [ecM] at q7
    have Fu : TFr tFK b l h S 100000 0 O u s4 := TF_tr Ft F5 (by decide) (Nat.le_refl _) (Nat.le_refl _) (Nat.le_refl _) (Nat.le_refl _) (Nat.le_refl _) (Nat.le_refl _)
    refine ⟨rfl, ?_⟩
    have hF4 := PF_tf hF Fu (by decide) (by decide) e2 (by omega) c7 c9 f5'.1
    by_cases h4 : (s4.1 8).toInt = 0
    · obtain ⟨A, p, a1', a2', a3', a4', a5', a6'⟩ := q10 h4
      clear q10
      have B4 : TB own b n W N T F H S0 G S' O' s4 := TB_fr k1 Fu (by decide) oS f5'.1 q2 q3 q4 (by omega) q6
      refine p167 (own := own) (W := W) (T := T) (F := F) (S0 := S0) (e := e) (l := l) (h := h) (p := p) (A := A) hLW hF4 (fun _ => ⟨B4.1, B4.2.1, fun f hf => ?_, by omega, by omega, k9, by rw [TF_row Fu (by decide)]; exact e1, e2, e3, a6', a1', a2', a3', by omega, by omega⟩)
      obtain ⟨e', l', h', A', w1, w2, w3, w4, w5, w6, w7⟩ := k7 f hf
      refine ⟨e', l', h', A', by rw [TF_row Fu (by decide)]; exact w1, w2, w3, wE_eq q4 q6 (TF_CA Fu ?_ hS100) w4, w5⟩
      have := apart (own := own) (p := (258, 60 * b + f)) (q := (259, b)) (fun w => by have := congrArg Prod.fst w; omega) w6 (show l < h by omega) w7 e5
      omega
    · unfold w_230_167
      exact ⟨fun _ => p207 hLW hF4 h4, fun w => absurd w h4⟩
/-- all functions are typed, one by one -/
theorem p129 {k : Nat} {a1 : Int32} (hLW : ∀ l, Lg' l → Lg l ∧ WKp b W l) (h1 : a1.toInt = (k : Int)) (hF : PFm Lg' b z u) (h52 : (u.2.1 252 b).toInt = (F : Int)) (hk : k ≤ F) (hF60 : F ≤ 60) (hG : (u.1 8).toInt = 0 → FIk own b n W N T F H S0 G k u) : wl_230_129 (Tot 571) a1 u (PQ Lg b z) := by
  refine ⟨fun a1 u => ∃ k : Nat, a1.toInt = (k : Int) ∧ k ≤ F ∧ PFm Lg' b z u ∧ (u.2.1 252 b).toInt = (F : Int) ∧ ((u.1 8).toInt = 0 → FIk own b n W N T F H S0 G k u), fun a1 _ => (100 - a1.toInt).toNat, ⟨k, h1, hk, hF, h52, hG⟩, ?_⟩
  clear hG h52 hF hk h1
  rintro a1 u ⟨k, h1, hk, hF, h52, hG⟩
  obtain ⟨f1, f2, f3, f4, f5, f6, f7, f8, f9⟩ := id hF
  unfold w_230_129
  rw [show (u.1 30).toInt.toNat = b by omega]
  refine ⟨by omega, fun hend => ?_, fun hmore => ⟨fun hne => p149 (own := own) (n := n) (W := W) (N := N) (T := T) (F := F) (H := H) (S0 := S0) (G := G) hLW hF (fun w => absurd w hne), fun h0 => ⟨by omega, fun x1 hx1 => ⟨by omega, fun x2 hx2 => ?_⟩⟩⟩⟩
  · have ek : k = F := by omega
    subst ek
    exact p149 hLW hF hG
  · obtain ⟨S, O, D, k1, k2, k3, k4, k5, k6, k7, k8, k9, k10⟩ := hG h0
    obtain ⟨c1, c2, c3, c4, c5, c6, c7, c8, c9⟩ := id k1
    have hS100 : S ≤ 100000 := Nat.le_trans (z41 c8 c1.1.1) (by decide)
    obtain ⟨hb, hn, hT24, -, hH, r33, r52, hA⟩ := id c1.1
    obtain ⟨-, -, -, e, l, h, e1, e2, e3, e4, e5⟩ := hA.2.2.1 k (by omega)
    have hlt := isE_lt e4
    have hS := cnt_add (own := own) (D := D) (D' := addD D (258, 60 * b + k)) (lo := 4002 * b) (N := N) (q := (258, 60 * b + k)) e2 (by omega) e3 e5 (k4 k (Nat.le_refl _)) (by unfold addD; simp) (fun p hp => by unfold addD; rw [hp]; rfl)
    have hS1 := cnt_le (own := own) (D := addD D (258, 60 * b + k)) (lo := 4002 * b) (N := N)
    have hO := cntM_add (own := own) (D := D) (D' := addD D (258, 60 * b + k)) (s := u) (lo := 4002 * b) (N := N) (q := (258, 60 * b + k)) e2 (by omega) e3 e5 (k4 k (Nat.le_refl _)) (by unfold addD; simp) (fun p hp => by unfold addD; rw [hp]; rfl)
    have hO1 := cntM_le (own := own) (D := addD D (258, 60 * b + k)) (s := u) (lo := 4002 * b) (N := N)
    have oS : ∀ x, l ≤ x → x < h → (own x).1 ∉ slR := fun x x1 x2 => by rw [e5 x x1 x2]; exact nlR (Or.inl rfl)
    refine Tot.imp (s_229 (f := k) (e := e) (l := l) (h := h) k1 (by omega) (by omega) e1 e4 e2 e3 (by omega) oS (by omega) (by omega)) ?_
    rintro v s3 ⟨rfl, Fu, g8, g70, S', O', q2, q3, q4, q5, q6, q7, q10⟩
    have hF3 := PF_tf hF Fu (by decide) (by decide) e2 (by omega) c7 c9 g8.1
    refine ⟨rfl, by omega, fun x5 hx5 => ⟨⟨k + 1, by omega, by omega, hF3, by rw [TF_row Fu (by decide)]; exact h52, fun h3 => ?_⟩, by show (100 - x5.toInt).toNat < (100 - a1.toInt).toNat; omega⟩⟩
    obtain ⟨A, w1, w2⟩ := q10 h3
    clear q10
    have r21 : s3.2.1 221 = u.2.1 221 := TF_row Fu (by decide)
    refine ⟨S', O', addD D (258, 60 * b + k), TB_fr k1 Fu (by decide) oS g8.1 q2 q3 q4 (by omega) q6, by omega, by rw [cntM_eq r21]; omega, fun f hf => ?_, ?_, g70, fun f hf => ?_, ES_tf k8 Fu (by decide), k9, by rw [cM_eq r21]; exact k10⟩
    · unfold addD
      rw [k4 f (by omega), Bool.false_or, beq_eq_false_iff_ne]
      intro w
      have := congrArg Prod.snd w
      have : 60 * b + f = 60 * b + k := this
      omega
    · unfold addD
      rw [k5, Bool.false_or, beq_eq_false_iff_ne]
      intro w
      have := congrArg Prod.fst w
      have : (259 : Nat) = 258 := this
      omega
    · by_cases ef : f = k
      · subst ef
        exact ⟨e, l, h, A, by rw [TF_row Fu (by decide)]; exact e1, e2, e3, w1, w2, by omega, e5⟩
      · obtain ⟨e', l', h', A', y1, y2, y3, y4, y5, y6, y7⟩ := k7 f (by omega)
        refine ⟨e', l', h', A', by rw [TF_row Fu (by decide)]; exact y1, y2, y3, wE_eq q4 q6 (TF_CA Fu ?_ hS100) y4, y5, y6, y7⟩
        have := apart (own := own) (p := (258, 60 * b + f)) (q := (258, 60 * b + k)) (fun w => by have := congrArg Prod.snd w; have : 60 * b + f = 60 * b + k := this; omega) y6 (show l < h by omega) y7 e5
        omega
end PF
