/-! ===== the class: tellSlot ===== -/
/-- a slot's fault as it is told -/
def slF (K L W ar kd : Int → Int) (tp TN : List Int) (hfs : Int → List Int) (q : Int × Int × Int × Int) : Int := if q.2.2.1 < 0 then 0 else if (tlT K L (cdOf W (hfs q.2.2.2) tp TN) ar 10 q.2.2.1).1 = 0 then (if q.2.1 = 0 ∧ ¬ kd (cdOf W (hfs q.2.2.2) tp TN q.2.2.1) = 2 then 6 + 16 * L q.2.2.1 else 0) else (tlT K L (cdOf W (hfs q.2.2.2) tp TN) ar 10 q.2.2.1).1
/-- what sort a type is: 1 struct, 2 interface -/
def KDz (P : Nat) (s : zS) (kd : Int → Int) (TN : List Int) : Prop := (∀ c : Int, 0 ≤ c → c < (TN.length : Int) → (kd c = 1 ∧ tyc s P c 1 = 4) ∨ (kd c = 2 ∧ tyc s P c 1 = 5)) ∧ ∀ c : Int, (c < 0 ∨ (TN.length : Int) ≤ c) → kd c = 0
/-- what the text and the tables say, but for the scope -/
def DBz (K L W ar kd : Int → Int) (n : Int) (P : Nat) (s : zS) (TN : List Int) : Prop := (KI (s.2 (P + 4)) = K ∧ KI (s.2 (P + 6)) = L ∧ KI (s.2 (P + 10)) = W ∧ KI (s.2 (P + 22)) = ar) ∧ SMz P s K W n ∧ TNz P s K n TN ∧ KDz P s kd TN
def SCh (P : Nat) (s : zS) (sg : Int) (hf : List Int) : Prop := (sg < 0 ∧ hf = []) ∨ ((0 ≤ sg ∧ sg ≤ 4000) ∧ hf.length ≤ 6 ∧ sgc s P sg 3 = (hf.length : Int) ∧ (0 ≤ sgc s P sg 2 ∧ sgc s P sg 2 ≤ 4000) ∧ ∀ (i : Nat) (u : Int), hf[i]? = some u → slc s P (sgc s P sg 2 + i) 0 = u)
def SCt (P : Nat) (s : zS) (tp : List Int) : Prop := KI (s.2 (P + 22)) (s.1 75 4).toInt = (tp.length : Int) ∧ tp.length ≤ 6 ∧ (tp ≠ [] → 0 ≤ (s.1 75 5).toInt ∧ (s.1 75 5).toInt ≤ 4000) ∧ ∀ (i : Nat) (u : Int), tp[i]? = some u → slc s P ((s.1 75 5).toInt + i) 0 = u
/-- what the telling may write of the tables: slots' words, funcs' structs and links, types' funcs -/
def TAf (P : Nat) (s s' : zS) : Prop := (∀ b q, ¬ (b = P ∧ (q = 10 ∨ q = 14)) → ¬ (b = 75 ∧ (q = 4 ∨ q = 5 ∨ q = 6)) → s'.1 b q = s.1 b q) ∧ (∀ r, ¬ r = P + 18 → ¬ r = P + 20 → ¬ r = P + 24 → ¬ r = P + 26 → ¬ r = P + 30 → s'.2 r = s.2 r) ∧ (∀ i : Nat, i < 18738 → s'.2 (P + 18) i = s.2 (P + 18) i) ∧ (∀ i : Nat, ¬ i % 5 = 3 → s'.2 (P + 30) i = s.2 (P + 30) i) ∧ (∀ i : Nat, ¬ i % 10 = 2 → ¬ i % 10 = 9 → s'.2 (P + 26) i = s.2 (P + 26) i) ∧ ∀ i : Nat, ¬ i % 6 = 5 → s'.2 (P + 24) i = s.2 (P + 24) i
section WSL
variable {d P : Nat} {s s' s'' : zS} {a1 : Int32} {K L W ar kd : Int → Int} {n : Int} {hf tp TN : List Int}
theorem TAf_rf : TAf P s s := ⟨fun _ _ _ _ => rfl, fun _ _ _ _ _ _ => rfl, fun _ _ => rfl, fun _ _ => rfl, fun _ _ _ => rfl, fun _ _ => rfl⟩
theorem TAf_tr (h : TAf P s s') (g : TAf P s' s'') : TAf P s s'' := ⟨fun b q w w' => (g.1 b q w w').trans (h.1 b q w w'), fun r w1 w2 w3 w4 w5 => (g.2.1 r w1 w2 w3 w4 w5).trans (h.2.1 r w1 w2 w3 w4 w5), fun i w => (g.2.2.1 i w).trans (h.2.2.1 i w), fun i w => (g.2.2.2.1 i w).trans (h.2.2.2.1 i w), fun i w w' => (g.2.2.2.2.1 i w w').trans (h.2.2.2.2.1 i w w'), fun i w => (g.2.2.2.2.2 i w).trans (h.2.2.2.2.2 i w)⟩
theorem TAf_L {a : Int} (h : TLf P a s s') (ha : 18738 ≤ a) : TAf P s s' := ⟨fun b q w _ => h.1 b q w, fun r w1 w2 _ _ _ => h.2.1 r w1 w2, fun i w => h.2.2.1 i (by omega), fun i _ => by rw [h.2.1 (P + 30) (by omega) (by omega)], fun i _ _ => by rw [h.2.1 (P + 26) (by omega) (by omega)], fun i _ => by rw [h.2.1 (P + 24) (by omega) (by omega)]⟩
theorem TAf_75 {q : Nat} {x : Int32} (hq : q = 4 ∨ q = 5 ∨ q = 6) : TAf P s (zf s 75 q x) := ⟨fun b p _ w => by rw [zf_1, if_neg (fun e => w (by omega))], fun _ _ _ _ _ _ => rfl, fun _ _ => rfl, fun _ _ => rfl, fun _ _ _ => rfl, fun _ _ => rfl⟩
theorem TAf_14 {x : Int32} : TAf P s (zf s P 14 x) := ⟨fun b p w _ => by rw [zf_1, if_neg (fun e => w (by omega))], fun _ _ _ _ _ _ => rfl, fun _ _ => rfl, fun _ _ => rfl, fun _ _ _ => rfl, fun _ _ => rfl⟩
theorem TAf_z {r : Nat} {x v : Int32} (h : (r = 30 ∧ x.toInt % 5 = 3) ∨ (r = 26 ∧ (x.toInt % 10 = 2 ∨ x.toInt % 10 = 9)) ∨ (r = 24 ∧ x.toInt % 6 = 5)) : TAf P s (zt s (P + r) x v) := by
  unfold zt
  split
  · rename_i hx
    have hr : ∀ p : Nat, ¬ p = P + r → (zr s (P + r) x.toInt.toNat v).2 p = s.2 p := fun p hp => by
      funext j
      rw [zr_2, if_neg (fun e => hp e.1)]
    refine ⟨fun _ _ _ _ => rfl, fun p w1 w2 w3 w4 w5 => hr p (by omega), fun i _ => by rw [hr _ (by omega)], fun i w => ?_, fun i w w' => ?_, fun i w => ?_⟩
    · rw [zr_2, if_neg (fun e => by omega)]
    · rw [zr_2, if_neg (fun e => by omega)]
    · rw [zr_2, if_neg (fun e => by omega)]
  · exact TAf_rf
theorem TAf_r (h : TAf P s s') {r : Nat} (h1 : ¬ r = 18) (h2 : ¬ r = 20) (h3 : ¬ r = 24) (h4 : ¬ r = 26) (h5 : ¬ r = 30) : s'.2 (P + r) = s.2 (P + r) := h.2.1 _ (by omega) (by omega) (by omega) (by omega) (by omega)
theorem TAf_sl (h : TAf P s s') {i c : Int} (hi : 0 ≤ i) (hc : 0 ≤ c ∧ c < 5) (h3 : ¬ c = 3) : slc s' P i c = slc s P i c := by
  unfold slc
  rw [KI_p (by omega), KI_p (by omega), h.2.2.2.1 _ (by omega)]
theorem TAf_ty (h : TAf P s s') {i c : Int} (hi : 0 ≤ i) (hc : 0 ≤ c ∧ c < 5) : tyc s' P i c = tyc s P i c := by
  unfold tyc
  rw [KI_p (by omega), KI_p (by omega), h.2.2.2.2.2 _ (by omega)]
theorem TAf_fn (h : TAf P s s') {i c : Int} (hi : 0 ≤ i) (hc : 0 ≤ c ∧ c < 10) (h2 : ¬ c = 2) (h9 : ¬ c = 9) : fnc s' P i c = fnc s P i c := by
  unfold fnc
  rw [KI_p (by omega), KI_p (by omega), h.2.2.2.2.1 _ (by omega) (by omega)]
theorem TAf_sg (h : TAf P s s') {i c : Int} : sgc s' P i c = sgc s P i c := by
  unfold sgc
  rw [TAf_r h (by decide) (by decide) (by decide) (by decide) (by decide)]
theorem DBz_f (hP : P = 3 ∨ P = 39) (h : TAf P s s') (g : DBz K L W ar kd n P s TN) : DBz K L W ar kd n P s' TN := by
  obtain ⟨⟨g1, g2, g3, g4⟩, g5, ⟨g6, g7, g8⟩, g9, g10⟩ := g
  have r : ∀ r : Nat, ¬ r = 18 → ¬ r = 20 → ¬ r = 24 → ¬ r = 26 → ¬ r = 30 → s'.2 (P + r) = s.2 (P + r) := fun r h1 h2 h3 h4 h5 => TAf_r h h1 h2 h3 h4 h5
  refine ⟨⟨by rw [r 4 (by decide) (by decide) (by decide) (by decide) (by decide)]; exact g1, by rw [r 6 (by decide) (by decide) (by decide) (by decide) (by decide)]; exact g2, by rw [r 10 (by decide) (by decide) (by decide) (by decide) (by decide)]; exact g3, by rw [r 22 (by decide) (by decide) (by decide) (by decide) (by decide)]; exact g4⟩, ?_, ⟨?_, g7, fun i u hu => ?_⟩, fun c c1 c2 => ?_, g10⟩
  · unfold SMz okT eqT zpl zln at *
    rw [r 2 (by decide) (by decide) (by decide) (by decide) (by decide), r 6 (by decide) (by decide) (by decide) (by decide) (by decide), r 8 (by decide) (by decide) (by decide) (by decide) (by decide)]
    exact g5
  · unfold zsz at *
    rw [h.1 (P + 24) 2 (fun w => by omega) (fun w => by omega)]
    exact g6
  · rw [TAf_ty h (by omega) (by decide)]
    exact g8 i u hu
  · rw [TAf_ty h c1 (by decide)]
    exact g9 c c1 c2
theorem SCh_f (h : TAf P s s') {sg : Int} (g : SCh P s sg hf) : SCh P s' sg hf := by
  rcases g with g | ⟨g1, g2, g3, g4, g5⟩
  · exact Or.inl g
  · refine Or.inr ⟨g1, g2, by rw [TAf_sg h]; exact g3, by rw [TAf_sg h]; exact g4, fun i u hu => ?_⟩
    rw [TAf_sg h, TAf_sl h (by omega) (by decide) (by decide)]
    exact g5 i u hu
theorem SCt_f (h : TAf P s s') (h4 : s'.1 75 4 = s.1 75 4) (h5 : s'.1 75 5 = s.1 75 5) (g : SCt P s tp) : SCt P s' tp := by
  obtain ⟨g1, g2, g3, g4⟩ := g
  refine ⟨by rw [TAf_r h (by decide) (by decide) (by decide) (by decide) (by decide), h4]; exact g1, g2, by rw [h5]; exact g3, fun i u hu => ?_⟩
  have g3' := g3 (fun e => by rw [e] at hu; cases hu)
  rw [h5, TAf_sl h (by omega) (by decide) (by decide)]
  exact g4 i u hu
theorem zInf_k (hT : TNz P s K n TN) (hK : KDz P s kd TN) {x : Int32} (hx : 0 ≤ x.toInt ∧ x.toInt ≤ 100) : ((zInf s P x).toInt = 0 ↔ ¬ kd x.toInt = 2) ∧ ((zStr s P x).toInt = 0 ↔ ¬ kd x.toInt = 1) := by
  obtain ⟨t1, t2, t3⟩ := hT
  have n1 := zg_ty (s := s) (P := P) (a1 := x) (c := 1) (k := 1) (by decide) (by decide) (by omega)
  unfold zInf zStr
  rw [cn_ty t1 (by omega), n1]
  rcases Int.lt_or_le x.toInt (TN.length : Int) with h | h
  · rcases hK.1 x.toInt hx.1 h with ⟨k1, k2⟩ | ⟨k1, k2⟩
    · rw [k1, k2, if_neg (fun w => by omega), if_pos ⟨h, rfl⟩]
      exact ⟨⟨fun _ => by decide, fun _ => by decide⟩, ⟨fun w => absurd w (by decide), fun w => absurd rfl w⟩⟩
    · rw [k1, k2, if_pos ⟨h, rfl⟩, if_neg (fun w => by omega)]
      exact ⟨⟨fun w => absurd w (by decide), fun w => absurd rfl w⟩, ⟨fun _ => by decide, fun _ => by decide⟩⟩
  · have k0 := hK.2 x.toInt (Or.inr h)
    rw [k0, if_neg (fun w => by omega), if_neg (fun w => by omega)]
    exact ⟨⟨fun _ => by decide, fun _ => by decide⟩, ⟨fun _ => by decide, fun _ => by decide⟩⟩
theorem tlT_hd {cd : Int → Int} {m : Nat} {t : Int} (h : (tlT K L cd ar (m + 1) t).1 = 0) : 0 ≤ cd t ∧ (∃ l, (tlT K L cd ar (m + 1) t).2 = (cd t, t) :: l) ∧ (tlT K L cd ar (m + 1) t).2.length ≤ 60 := by
  rw [tlT] at h ⊢
  by_cases h1 : cd t < 0
  · rw [if_pos h1] at h ⊢
    dsimp only at h
    omega
  · rw [if_neg h1] at h ⊢
    by_cases h2 : ¬ (ntc K L t : Int) = ar (cd t)
    · rw [if_pos h2] at h
      dsimp only at h
      omega
    · rw [if_neg h2] at h ⊢
      by_cases h3 : (tlS (tlT K L cd ar m) (nxT K L) (ntc K L t) (t + 2)).1 = 0
      · rw [if_pos h3] at h ⊢
        by_cases h4 : 60 < (tlS (tlT K L cd ar m) (nxT K L) (ntc K L t) (t + 2)).2.length + 1
        · rw [if_pos h4] at h
          dsimp only at h
          omega
        · rw [if_neg h4]
          exact ⟨by omega, ⟨_, rfl⟩, by rw [List.length_cons]; omega⟩
      · rw [if_neg h3] at h
        exact absurd h h3
/-- what tellSlot leaves of slot j -/
def TSq (K L W ar kd : Int → Int) (P : Nat) (tp TN : List Int) (hfs : Int → List Int) (k j : Int) (q : Int × Int × Int × Int) (s s' : zS) : Prop := TAf P s s' ∧ (s'.1 P 14).toInt = slF K L W ar kd tp TN hfs q ∧ (s'.1 75 4 = s.1 75 4 ∧ s'.1 75 5 = s.1 75 5) ∧ (∀ i : Nat, (i : Int) < k → s'.2 (P + 18) i = s.2 (P + 18) i) ∧ (∀ i : Nat, (i : Int) < k - 18738 → s'.2 (P + 20) i = s.2 (P + 20) i) ∧ (∀ i : Nat, ¬ (i : Int) = 5 * j + 3 → s'.2 (P + 30) i = s.2 (P + 30) i) ∧ (s'.2 (P + 26) = s.2 (P + 26) ∧ s'.2 (P + 24) = s.2 (P + 24)) ∧ (slF K L W ar kd tp TN hfs q = 0 → (q.2.2.1 < 0 → s' = s) ∧ (0 ≤ q.2.2.1 → (s'.1 P 10).toInt = k + ((tlT K L (cdOf W (hfs q.2.2.2) tp TN) ar 10 q.2.2.1).2.length : Int) ∧ ((tlT K L (cdOf W (hfs q.2.2.2) tp TN) ar 10 q.2.2.1).2.length : Int) ≤ nxT K L q.2.2.1 - q.2.2.1 ∧ slc s' P j 3 = k ∧ WDz P s' k ((tlT K L (cdOf W (hfs q.2.2.2) tp TN) ar 10 q.2.2.1).2.map Prod.fst) ∧ TTz P s' k ((tlT K L (cdOf W (hfs q.2.2.2) tp TN) ar 10 q.2.2.1).2.map Prod.snd)))
set_option maxHeartbeats 2000000 in
theorem zs_131 (hP : P = 3 ∨ P = 39) (hX : TXp K L n) {j k : Int} {q : Int × Int × Int × Int} {hfs : Int → List Int} (h1 : a1.toInt = j) (hj : 0 ≤ j ∧ j ≤ 3999) (q1 : slc s P j 1 = q.2.1) (q2 : slc s P j 2 = q.2.2.1) (q4 : slc s P j 4 = q.2.2.2) (hq4 : -1 ≤ q.2.2.2 ∧ q.2.2.2 ≤ 4000) (h14 : (s.1 P 14).toInt = 0) (h10 : (s.1 P 10).toInt = k) (hk0 : 18738 ≤ k) (hpt : 0 ≤ q.2.2.1 → (p_t K L 10 false (0, q.2.2.1)).1 = 0 ∧ nxT K L q.2.2.1 ≤ n ∧ k + (nxT K L q.2.2.1 - q.2.2.1) ≤ 82000 ∧ LT K L P q.2.2.1 (nxT K L q.2.2.1) s) (hD : DBz K L W ar kd n P s TN) (hC : SCh P s q.2.2.2 (hfs q.2.2.2)) (hT : SCt P s tp) : Zt 24 (wd P 131) 131 [.ref 83, .int a1] s (fun v s' => v = none ∧ TSq K L W ar kd P tp TN hfs k j q s s') := by
  have n1 := zg_sl (s := s) (P := P) (a1 := a1) (c := 1) (k := 1) (by decide) (by decide) (by omega)
  have n2 := zg_sl (s := s) (P := P) (a1 := a1) (c := 2) (k := 2) (by decide) (by decide) (by omega)
  have n4 := zg_sl (s := s) (P := P) (a1 := a1) (c := 4) (k := 4) (by decide) (by decide) (by omega)
  rw [h1, q1] at n1
  rw [h1, q2] at n2
  rw [h1, q4] at n4
  have hn4 := hX.1
  refine zc_131 (d := 15) hP ?_
  unfold v_131_0
  rw [n2]
  refine ⟨fun w s3 hs3 x4 hx4 x5 hx5 => ?_, fun w => ⟨rfl, TAf_rf, ?_, ⟨rfl, rfl⟩, fun _ _ => rfl, fun _ _ => rfl, fun _ _ => rfl, ⟨rfl, rfl⟩, fun _ => ⟨fun _ => rfl, fun w' => absurd w' w⟩⟩⟩
  · obtain ⟨hp1, hp2, hp3, hp4⟩ := hpt w
    have hg := (pt_g 10 (by omega) false _ hp1).2.2
    have hfw := (pt_fw 10 _ _ hp1).2
    dsimp only at hfw
    rw [← hg] at hfw
    have ex4 := hx4 (by omega)
    have ex5 := hx5 (by omega)
    have e10 : s3.1 P 10 = s.1 P 10 := by rw [hs3, zf_1, if_neg (fun e => by omega)]
    rw [e10]
    refine ⟨by omega, fun s6 hs6 => ?_⟩
    have f3 : TAf P s s3 := by rw [hs3]; exact TAf_75 (by omega)
    have l30 : lim (P + 30) = 20000 := by rcases hP with rfl | rfl <;> decide +kernel
    have z6 : s6 = zr s3 (P + 30) (5 * j + 3).toNat (s.1 P 10) := by
      rw [hs6, zt_in (by rw [l30]; omega), show x5.toInt = 5 * j + 3 by omega]
    have f6 : TAf P s3 s6 := by rw [hs6]; exact TAf_z (Or.inl ⟨rfl, by omega⟩)
    have F6 := TAf_tr f3 f6
    have e6 : (s6.1 75 6).toInt = q.2.2.2 := by
      rw [z6, zr_1, hs3, zf_1, if_pos ⟨rfl, rfl⟩, n4]
    have e64 : s6.1 75 4 = s.1 75 4 ∧ s6.1 75 5 = s.1 75 5 := by
      rw [z6, zr_1, hs3, zf_1, zf_1, if_neg (fun e => absurd e.2 (by decide)), if_neg (fun e => absurd e.2 (by decide))]
      exact ⟨rfl, rfl⟩
    have e614 : (s6.1 P 14).toInt = 0 := by
      rw [z6, zr_1, hs3, zf_1, if_neg (fun e => by omega)]
      exact h14
    have e610 : (s6.1 P 10).toInt = k := by
      rw [z6, zr_1, e10]
      exact h10
    have e630 : slc s6 P j 3 = k := by
      unfold slc
      rw [KI_p (by omega), z6, zr_2, if_pos ⟨rfl, rfl⟩]
      exact h10
    have o30 : ∀ i : Nat, ¬ (i : Int) = 5 * j + 3 → s6.2 (P + 30) i = s.2 (P + 30) i := fun i hi => by
      rw [z6, zr_2, if_neg (fun e => by omega), hs3]
      rfl
    have oth : ∀ r, ¬ r = P + 30 → s6.2 r = s.2 r := fun r hr => by
      funext i
      rw [z6, zr_2, if_neg (fun e => hr e.1), hs3]
      rfl
    have hD6 := DBz_f hP F6 hD
    have hS6 : SCz P s6 (hfs q.2.2.2) tp := by
      refine ⟨?_, SCt_f F6 e64.1 e64.2 hT⟩
      have := SCh_f F6 hC
      rw [← e6] at this
      rw [e6] at this
      have h2 : SCh P s6 (s6.1 75 6).toInt (hfs q.2.2.2) := by rw [e6]; exact this
      exact h2
    have hH6 : TLh K L W ar n P s6 (hfs q.2.2.2) tp TN := ⟨hD6.1, hD6.2.1, hD6.2.2.1, hS6⟩
    have hL6 : LT K L P q.2.2.1 (p_t K L 10 false (0, q.2.2.1)).2 s6 := fun y y1 y2 y3 => by
      rw [oth _ (by omega)]
      rw [← hg] at y2
      exact hp4 y y1 y2 y3
    refine Zt.imp (Zt.mo (d := 22) (by omega) (zs_132 (W := W) (ar := ar) (hf := hfs q.2.2.2) (tp := tp) (TN := TN) hP hX 10 (Nat.le_refl _) _ _ q.2.2.1 k s6 n2 (by decide) w hp1 (by rw [← hg]; exact hp2) e614 e610 hk0 (by rw [← hg]; exact (Int.le_trans hp3 (by decide))) hL6 hH6)) ?_
    rintro v7 s8 ⟨x9, rfl, r1, r2, r3⟩
    refine ⟨x9, rfl, ?_⟩
    have F8 := TAf_tr F6 (TAf_L r1 hk0)
    have o8 : ∀ i : Nat, ¬ (i : Int) = 5 * j + 3 → s8.2 (P + 30) i = s.2 (P + 30) i := fun i hi => by
      rw [TLf_K r1 (by decide) (by decide)]
      exact o30 i hi
    have e83 : slc s8 P j 3 = k := by
      unfold slc at e630 ⊢
      rw [TLf_K r1 (by decide) (by decide)]
      exact e630
    have e84 : s8.1 75 4 = s.1 75 4 ∧ s8.1 75 5 = s.1 75 5 := ⟨(r1.1 75 4 (fun e => by omega)).trans e64.1, (r1.1 75 5 (fun e => by omega)).trans e64.2⟩
    have e8r : s8.2 (P + 26) = s.2 (P + 26) ∧ s8.2 (P + 24) = s.2 (P + 24) := ⟨(TLf_K r1 (by decide) (by decide)).trans (oth _ (by omega)), (TLf_K r1 (by decide) (by decide)).trans (oth _ (by omega))⟩
    have e818 : ∀ i : Nat, (i : Int) < k → s8.2 (P + 18) i = s.2 (P + 18) i := fun i hi => by rw [r1.2.2.1 i hi, oth _ (by omega)]
    have e820 : ∀ i : Nat, (i : Int) < k - 18738 → s8.2 (P + 20) i = s.2 (P + 20) i := fun i hi => by rw [r1.2.2.2 i hi, oth _ (by omega)]
    have m1 : (zg s8 (P + 30) (a1 * 5 + 1)).toInt = q.2.1 := by
      rw [zg_sl (s := s8) (P := P) (a1 := a1) (c := 1) (k := 1) (by decide) (by decide) (by omega), h1]
      unfold slc at q1 ⊢
      rw [KI_p (by omega), o8 _ (by omega), ← KI_p (by omega)]
      exact q1
    rw [m1]
    generalize hR : tlT K L (cdOf W (hfs q.2.2.2) tp TN) ar 10 q.2.2.1 = R at *
    have hRn : ¬ q.2.2.1 < 0 := by omega
    -- the answer, φ behind the last look
    have ans : ∀ (u : zS) , (u = s8 ∨ ∃ x : Int32, u = zf s8 P 14 x) → (u.1 P 14).toInt = slF K L W ar kd tp TN hfs q → (slF K L W ar kd tp TN hfs q = 0 → u = s8 ∧ R.1 = 0) → TSq K L W ar kd P tp TN hfs k j q s u := by
      intro u hu hu1 hu2
      have hur : u.2 = s8.2 := by
        rcases hu with rfl | ⟨x, rfl⟩
        · rfl
        · rfl
      have hu75 : u.1 75 4 = s8.1 75 4 ∧ u.1 75 5 = s8.1 75 5 := by
        rcases hu with rfl | ⟨x, rfl⟩
        · exact ⟨rfl, rfl⟩
        · rw [zf_1, zf_1, if_neg (fun e => by omega), if_neg (fun e => by omega)]
          exact ⟨rfl, rfl⟩
      have hT8 : TAf P s8 u := by
        rcases hu with rfl | ⟨x, rfl⟩
        · exact TAf_rf
        · exact TAf_14
      refine ⟨TAf_tr F8 hT8, hu1, ⟨hu75.1.trans e84.1, hu75.2.trans e84.2⟩, by rw [hur]; exact e818, by rw [hur]; exact e820, by rw [hur]; exact o8, by rw [hur]; exact e8r, fun h0 => ⟨fun y => absurd y hRn, fun _ => ?_⟩⟩
      obtain ⟨hu3, hR0⟩ := hu2 h0
      obtain ⟨r4, r5, r6, r7, r8⟩ := r3 hR0
      rw [hR, hu3]
      refine ⟨r4, ?_, e83, r5, r6⟩
      rw [hg]
      exact r8
    have hsl : slF K L W ar kd tp TN hfs q = if R.1 = 0 then (if q.2.1 = 0 ∧ ¬ kd (cdOf W (hfs q.2.2.2) tp TN q.2.2.1) = 2 then 6 + 16 * L q.2.2.1 else 0) else R.1 := by
      unfold slF
      rw [if_neg hRn, hR]
    have hLt := hX.2.2 q.2.2.1 w (by omega)
    refine ⟨fun y => ⟨rfl, ans s8 (Or.inl rfl) ?_ (fun h0 => ⟨rfl, ?_⟩)⟩, fun y => ?_⟩
    · rw [hsl, r2]
      by_cases hh : R.1 = 0
      · rw [if_pos hh, if_neg (fun e => y e.1)]
        exact hh
      · rw [if_neg hh]
    · rw [hsl] at h0
      by_cases hh : R.1 = 0
      · exact hh
      · rw [if_neg hh] at h0
        exact h0
    · by_cases hh : R.1 = 0
      · obtain ⟨r4, r5, r6, r7, r8⟩ := r3 hh
        have hd := tlT_hd (K := K) (L := L) (ar := ar) (cd := cdOf W (hfs q.2.2.2) tp TN) (m := 9) (t := q.2.2.1) (by show (tlT K L _ ar 10 _).1 = 0; rw [hR]; exact hh)
        obtain ⟨hc0, ⟨l, hl⟩, -⟩ := hd
        have hl' : R.2 = (cdOf W (hfs q.2.2.2) tp TN q.2.2.1, q.2.2.1) :: l := by rw [← hR]; exact hl
        have w0 := r5 0 (cdOf W (hfs q.2.2.2) tp TN q.2.2.1) (by rw [hl']; rfl)
        rw [show k + ((0 : Nat) : Int) = k by omega] at w0
        have zw : (zg s8 (P + 18) (s.1 P 10)).toInt = cdOf W (hfs q.2.2.2) tp TN q.2.2.1 := by rw [zg_K, h10]; exact w0
        have hD8 := DBz_f hP F8 hD
        have hl6 : (hfs q.2.2.2).length ≤ 6 := by
          rcases hC with ⟨-, e⟩ | ⟨-, e, -⟩
          · rw [e]
            decide
          · exact e
        have hcb := cdOf_b (W := W) (t := q.2.2.1) hl6 hT.2.1 hD.2.2.1.2.1
        have zk := (zInf_k (kd := kd) hD8.2.2.1 hD8.2.2.2 (x := zg s8 (P + 18) (s.1 P 10)) (by rw [zw]; omega)).1
        rw [zw] at zk
        refine ⟨fun y1 => ⟨rfl, ans s8 (Or.inl rfl) ?_ (fun _ => ⟨rfl, hh⟩)⟩, fun y1 => ?_⟩
        · rw [hsl, if_pos hh, if_neg (fun e => y1 (zk.mpr e.2)), r2]
          exact hh
        · refine Zt.imp (Zt.mo (d := 9) (by omega) (zs_38b (d := 0) hP (by rw [hD8.1.2.1, n2]; omega) (by decide))) ?_
          rintro v11 s12 ⟨rfl, hc⟩
          refine ⟨rfl, rfl, ?_⟩
          have h6 : slF K L W ar kd tp TN hfs q = 6 + 16 * L q.2.2.1 := by rw [hsl, if_pos hh, if_pos ⟨y, zk.mp y1⟩]
          rcases hc with ⟨-, -, x, hx, hs12⟩ | ⟨hc, -⟩
          · rw [hD8.1.2.1, n2] at hx
            refine ans s12 (Or.inr ⟨x, hs12⟩) ?_ (fun h0 => by omega)
            rw [hs12, zf_1, if_pos ⟨rfl, rfl⟩, hx, h6]
            rfl
          · exact absurd ⟨by rw [r2]; exact hh, by decide⟩ hc
      · refine ⟨fun _ => ⟨rfl, ans s8 (Or.inl rfl) ?_ (fun h0 => ?_)⟩, fun _ => ?_⟩
        · rw [hsl, if_neg hh]
          exact r2
        · rw [hsl, if_neg hh] at h0
          exact absurd h0 hh
        · refine Zt.imp (Zt.mo (d := 9) (by omega) (zs_38b (d := 0) hP (by rw [(DBz_f hP F8 hD).1.2.1, n2]; omega) (by decide))) ?_
          rintro v11 s12 ⟨rfl, hc⟩
          refine ⟨rfl, rfl, ?_⟩
          rcases hc with ⟨hc, -⟩ | ⟨-, hs12⟩
          · rw [r2] at hc
            exact absurd hc hh
          · rw [hs12]
            refine ans s8 (Or.inl rfl) ?_ (fun h0 => ?_)
            · rw [hsl, if_neg hh]
              exact r2
            · rw [hsl, if_neg hh] at h0
              exact absurd h0 hh
  · unfold slF
    rw [if_pos (by omega)]
    exact h14
end WSL
