/-! ===== the class: Press, what it lays into OUT ===== -/
/-- the signs in OUT -/
def OUz (s : zS) (l : List Int) : Prop := (s.1 207 2).toInt = (l.length : Int) ∧ l.length ≤ 2000 ∧ ∀ (i : Nat) (x : Int), l[i]? = some x → (s.2 207 i).toInt = x
/-- the signs of token t -/
def sgZ (P : Nat) (s : zS) (t : Int) : List Int := (List.range (KI (s.2 (P + 8)) t).toNat).map (fun i : Nat => KI (s.2 (P + 2)) (KI (s.2 (P + 6)) t + (i : Int)))
/-- what putType may write -/
def PRt (s s' : zS) : Prop := (∀ r, ¬ r = 207 → ¬ r = 211 → s'.2 r = s.2 r) ∧ ∀ c q, ¬ (c = 207 ∧ q = 2) → s'.1 c q = s.1 c q
/-- TYPES still to come -/
def opD : List Nat → Int
  | [] => 1
  | n :: D => (n : Int) - 1 + opD D
/-- the open counts, outermost at 0 -/
def rwD (w : zS) (D : List Nat) : Prop := ∀ (j n : Nat), D[j]? = some n → (w.2 211 (D.length - 1 - j)).toInt = (n : Int)
section ZYB
variable {d P : Nat} {s u w : zS} {a1 a2 v : Int32} {l : List Int} {x : Int} {ar : Int → Int}
theorem PRt_rf : PRt s s := ⟨fun _ _ _ => rfl, fun _ _ _ => rfl⟩
theorem PRt_tr (h : PRt s u) (g : PRt u w) : PRt s w := ⟨fun r a b => (g.1 r a b).trans (h.1 r a b), fun c q a => (g.2 c q a).trans (h.2 c q a)⟩
theorem PRt_a : PRt s (za s 207 v) := ⟨fun r a _ => za_r a, fun c q a => za_o a⟩
theorem PRt_t : PRt s (zt s 211 a1 v) := ⟨fun r _ b => zt_o b, fun c q _ => by rw [zt_1]⟩
theorem OU_a (h : OUz s l) (hv : v.toInt = x) : OUz (za s 207 v) (ouT (l ++ [x])) := by
  obtain ⟨h1, h2, h3⟩ := h
  have hl : (lim 207 : Int) = 2000 := by decide +kernel
  unfold ouT
  by_cases hf : l.length < 2000
  · rw [List.take_of_length_le (by rw [List.length_append, List.length_singleton]; omega)]
    refine ⟨?_, by rw [List.length_append, List.length_singleton]; omega, fun i y hy => ?_⟩
    · rw [za_n (by omega) (by omega), if_pos (by rw [hl]; omega), h1, List.length_append, List.length_singleton]
      omega
    · rw [za_c (by rw [hl]; omega), h1, Int.toNat_natCast]
      by_cases e : i = l.length
      · rw [if_pos ⟨rfl, e⟩, hv]
        rw [e, List.getElem?_concat_length] at hy
        exact Option.some.inj hy
      · rw [if_neg (fun q => e q.2)]
        have hi := (List.getElem?_eq_some_iff.mp hy).1
        rw [List.length_append, List.length_singleton] at hi
        rw [List.getElem?_append_left (by omega)] at hy
        exact h3 i y hy
  · have e : (l ++ [x]).take 2000 = l := by
      rw [List.take_append_of_le_length (by omega), List.take_of_length_le h2]
    have es : za s 207 v = s := by
      unfold za
      rw [if_neg (by rw [hl]; omega)]
    rw [e, es]
    exact ⟨h1, h2, h3⟩
/-- one sign more behind what was said -/
theorem OU_s {t : List Int} (h : OUz s (ouT (l ++ t))) (hv : v.toInt = x) : OUz (za s 207 v) (ouT (l ++ (t ++ [x]))) := by
  have g := OU_a h hv
  rw [ouT_app, List.append_assoc] at g
  exact g
theorem OU_t (h : OUz s l) : OUz (zt s 211 a1 v) l := by
  obtain ⟨h1, h2, h3⟩ := h
  exact ⟨by rw [zt_1]; exact h1, h2, fun i y hy => by rw [zt_o (by decide)]; exact h3 i y hy⟩
theorem sgZ_f (hP : P = 3 ∨ P = 39) (h : PRt s u) {t : Int} : sgZ P u t = sgZ P s t := by
  unfold sgZ
  rw [h.1 (P + 8) (by omega) (by omega), h.1 (P + 6) (by omega) (by omega), h.1 (P + 2) (by omega) (by omega)]
/-- putWord -/
theorem zs_33 (hP : P = 3 ∨ P = 39) (hO : OUz s (ouT l)) (hp : 0 ≤ KI (s.2 (P + 6)) a1.toInt ∧ KI (s.2 (P + 6)) a1.toInt ≤ 5000) (hn : 0 ≤ KI (s.2 (P + 8)) a1.toInt ∧ KI (s.2 (P + 8)) a1.toInt ≤ 5000) : Zt (d + 9) (wd2 P 33) 33 [.ref 206, .int a1] s (fun v s' => v = none ∧ PRt s s' ∧ s'.2 211 = s.2 211 ∧ OUz s' (ouT (l ++ sgZ P s a1.toInt))) := by
  have hsl : (sgZ P s a1.toInt).length = (KI (s.2 (P + 8)) a1.toInt).toNat := by
    unfold sgZ
    rw [List.length_map, List.length_range]
  refine zc_33 hP ?_
  unfold v_33_0
  refine ⟨fun c1 c2 c3 u => c1 = a1 ∧ c2 = zg s (P + 6) a1 ∧ PRt s u ∧ u.2 211 = s.2 211 ∧ ∃ i : Nat, c3.toInt = (i : Int) ∧ (i : Int) ≤ KI (s.2 (P + 8)) a1.toInt ∧ OUz u (ouT (l ++ (sgZ P s a1.toInt).take i)), fun _ _ c3 _ => (5000 - c3.toInt).toNat, ⟨rfl, rfl, PRt_rf, rfl, 0, by decide, hn.1, by rw [List.take_zero, List.append_nil]; exact hO⟩, ?_⟩
  rintro c1 c2 c3 u ⟨e1, e2, Fu, r11, i, i1, i2, Ou⟩
  subst e1 e2
  unfold v_33_9
  rw [zg_K, Fu.1 (P + 8) (by omega) (by omega)]
  refine ⟨fun y => ?_, fun y x1 hx1 s2 hs2 x3 hx3 => ?_⟩
  · rw [List.take_of_length_le (by rw [hsl]; omega)] at Ou
    exact ⟨rfl, Fu, r11, Ou⟩
  · have e0 : (zg s (P + 6) c1).toInt = KI (s.2 (P + 6)) c1.toInt := zg_K
    rw [e0] at hx1
    have ex1 := hx1 (by omega)
    have ex3 := hx3 (by omega)
    have hi : (sgZ P s c1.toInt)[i]? = some (KI (s.2 (P + 2)) (KI (s.2 (P + 6)) c1.toInt + (i : Int))) := by
      unfold sgZ
      rw [List.getElem?_map, List.getElem?_range (by omega)]
      rfl
    have g := OU_s (x := KI (s.2 (P + 2)) (KI (s.2 (P + 6)) c1.toInt + (i : Int))) (v := zg u (P + 2) x1) Ou (by rw [zg_K, Fu.1 (P + 2) (by omega) (by omega), ex1, i1])
    have et : (sgZ P s c1.toInt).take (i + 1) = (sgZ P s c1.toInt).take i ++ [KI (s.2 (P + 2)) (KI (s.2 (P + 6)) c1.toInt + (i : Int))] := by
      rw [List.take_add_one, hi]
      rfl
    rw [← et] at g
    rw [← hs2] at g
    exact ⟨⟨rfl, rfl, PRt_tr Fu (by rw [hs2]; exact PRt_a), by rw [hs2, za_r (by decide)]; exact r11, i + 1, by omega, by omega, g⟩, by dsimp only; omega⟩
theorem opD_nn : ∀ {D : List Nat}, (∀ n ∈ D, 1 ≤ n) → 1 ≤ opD D
  | [], _ => by
    show (1 : Int) ≤ 1
    omega
  | n :: D, h => by
    have h1 := h n List.mem_cons_self
    have h2 := opD_nn (D := D) (fun m hm => h m (List.mem_cons_of_mem _ hm))
    show (1 : Int) ≤ (n : Int) - 1 + opD D
    omega
set_option maxHeartbeats 2000000 in
/-- putType -/
theorem zs_32p {A : List Int} {pw : Int → List Int} (hP : P = 3 ∨ P = 39) (hA : KI (s.2 (P + 22)) = ar) (h6 : ∀ c, 0 ≤ ar c ∧ ar c ≤ 7) (hR : isR ar 1 A) (hl : A.length ≤ 60) (ha : 0 ≤ a1.toInt ∧ a1.toInt ≤ 100000) (hw : WDz P s a1.toInt A) (hc : ∀ c ∈ A, 0 ≤ c ∧ c < 24) (hp : ∀ c ∈ A, (0 ≤ KI (s.2 (P + 6)) (tyc s P c 0) ∧ KI (s.2 (P + 6)) (tyc s P c 0) ≤ 5000) ∧ (0 ≤ KI (s.2 (P + 8)) (tyc s P c 0) ∧ KI (s.2 (P + 8)) (tyc s P c 0) ≤ 5000) ∧ pw c = sgZ P s (tyc s P c 0)) (hO : OUz s (ouT l)) : Zt (d + 18) (wd2 P 32) 32 [.ref 206, .int a1] s (fun v s' => v = none ∧ PRt s s' ∧ OUz s' (ouT (l ++ txT ar pw A))) := by
  have hlm : (lim 211 : Int) = 61 := by decide +kernel
  refine zc_32 (d := d + 9) hP ?_
  unfold v_32_0
  intro s1 hs1
  have F1 : PRt s s1 := by rw [hs1]; exact PRt_t
  have r1 : rwD s1 [1] := fun j n hn => by
    have hj := (List.getElem?_eq_some_iff.mp hn).1
    obtain rfl : j = 0 := by
      rw [List.length_singleton] at hj
      omega
    have hn : n = 1 := (Option.some.inj hn).symm
    rw [hn, hs1, zt_e, if_pos ⟨rfl, ⟨by decide, by rw [hlm]; decide⟩, by decide⟩]
    decide
  obtain ⟨I, hI⟩ : ∃ I : Int32 → Int32 → Int32 → zS → Prop, ∀ c1 c2 c3 w, I c1 c2 c3 w ↔ (c1 = a1 ∧ PRt s w ∧ ∃ (i : Nat) (D : List Nat) (t : List Int), c3.toInt = (i : Int) ∧ i ≤ A.length ∧ (¬ D = [] ∧ c2.toInt = (D.length : Int) - 1 ∧ D.length ≤ i + 1) ∧ rwD w D ∧ (isR ar (opD D) (A.drop i) ∧ (D = [0] ∨ ∀ n ∈ D, 1 ≤ n)) ∧ OUz w (ouT (l ++ t)) ∧ t ++ txR ar pw (A.drop i) D = txT ar pw A) := ⟨_, fun _ _ _ _ => Iff.rfl⟩
  refine ⟨I, fun _ _ c3 _ => (60 - c3.toInt).toNat, (hI _ _ _ _).mpr ⟨rfl, F1, 0, [1], [], by decide, Nat.zero_le _, ⟨(by intro z; cases z), by decide, Nat.le_refl _⟩, r1, ⟨hR, Or.inr (fun n hn => Nat.le_of_eq (List.mem_singleton.mp hn).symm)⟩, by rw [List.append_nil, hs1]; exact OU_t hO, rfl⟩, ?_⟩
  intro c1 c2 c3 w hw0
  obtain ⟨rfl, Fw, i, D, t, i1, i2, ⟨D1, D2, D3⟩, Dr, ⟨D4, D5⟩, Ow, et⟩ := (hI _ _ _ _).mp hw0
  have fin : A.drop i = [] → v_32_94 (fun j => Zt (d + 9 + 8) (wd2 P j) j) P c1 c2 c3 w (fun v s' => v = none ∧ PRt s s' ∧ OUz s' (ouT (l ++ txT ar pw A))) := fun e => by
    unfold v_32_94
    rw [e] at et
    have et : t ++ [] = txT ar pw A := et
    rw [List.append_nil] at et
    rw [et] at Ow
    exact ⟨rfl, Fw, Ow⟩
  have hD0 : ∃ n, D[D.length - 1]? = some n ∧ (w.2 211 0).toInt = (n : Int) := by
    have hlt : D.length - 1 < D.length := by
      have := List.length_pos_iff.mpr D1
      omega
    refine ⟨D[D.length - 1], List.getElem?_eq_getElem hlt, ?_⟩
    have := Dr (D.length - 1) _ (List.getElem?_eq_getElem hlt)
    rw [show D.length - 1 - (D.length - 1) = 0 by omega] at this
    exact this
  have z0 : (zg w 211 0).toInt = (w.2 211 0).toInt := by
    rw [zg_nn (by decide)]
    rfl
  unfold v_32_9
  refine ⟨fun y => fin (List.drop_of_length_le (by omega)), fun y => ⟨fun y0 => fin ?_, fun y0 x1 hx1 => ?_⟩⟩
  · rcases D5 with rfl | D5
    · match hq : A.drop i, D4 with
      | [], _ => rfl
      | c :: B, D4 =>
        have : (0 : Int) < opD [0] := D4.1
        exact absurd this (by decide)
    · obtain ⟨n, n1, n2⟩ := hD0
      have := D5 n (List.mem_of_getElem? n1)
      omega
  have D5 : ∀ n ∈ D, 1 ≤ n := by
    rcases D5 with rfl | D5
    · obtain ⟨n, n1, n2⟩ := hD0
      have : n = 0 := (Option.some.inj n1).symm
      omega
    · exact D5
  have hop := opD_nn D5
  match hq : A.drop i, D4 with
  | [], D4 =>
    have D4 : opD D = 0 := D4
    omega
  | c :: B, D4 =>
    obtain ⟨-, -, D4⟩ := D4
    have hi : i < A.length := by
      by_cases e : i < A.length
      · exact e
      · rw [List.drop_of_length_le (by omega)] at hq
        cases hq
    have hAi : A[i]? = some c := by
      have := List.getElem?_drop (xs := A) (i := i) (j := 0)
      rw [hq] at this
      exact this.symm
    have hB : A.drop (i + 1) = B := by
      rw [← List.drop_drop, hq]
      rfl
    have hcA := List.mem_of_getElem? hAi
    have c24 := hc c hcA
    obtain ⟨p1, p2, p3⟩ := hp c hcA
    have ex1 := hx1 (by omega)
    have ec : (zg w (P + 18) x1).toInt = c := by
      rw [zg_K, Fw.1 (P + 18) (by omega) (by omega), ex1, i1]
      exact hw i c hAi
    have etk : (zg w (P + 24) ((zg w (P + 18) x1) * 6 + 0)).toInt = tyc s P c 0 := by
      rw [zg_ty (k := 0) (by decide) (by decide) (by rw [ec]; omega), ec]
      unfold tyc
      rw [Fw.1 (P + 24) (by omega) (by omega)]
    rw [hq] at et
    have et : t ++ (pw c ++ (if 0 < ar c then 91 :: txR ar pw B ((ar c).toNat :: D) else (txC D).1 ++ txR ar pw B (txC D).2)) = txT ar pw A := et
    refine Zt.imp (Zt.mo (d := 9) (by omega) (zs_33 (d := 0) (l := l ++ t) hP Ow (by rw [etk, Fw.1 (P + 6) (by omega) (by omega)]; exact p1) (by rw [etk, Fw.1 (P + 8) (by omega) (by omega)]; exact p2))) ?_
    rintro v3 s4 ⟨rfl, F4, r4, O4⟩
    rw [etk, sgZ_f hP Fw, ← p3, List.append_assoc] at O4
    have F4' := PRt_tr Fw F4
    have ear : (zg s4 (P + 22) (zg w (P + 18) x1)).toInt = ar c := by
      rw [zg_K, F4'.1 (P + 22) (by omega) (by omega), ec, hA]
    have d60 : (D.length : Int) ≤ 60 := by omega
    refine ⟨rfl, fun y1 x5 hx5 s6 hs6 => ?_, fun y1 x7 hx7 s8 hs8 s9 hs9 => ?_⟩
    · rw [ear] at y1
      rw [if_neg (by omega)] at et
      have ar0 : ar c = 0 := by
        have := (h6 c).1
        omega
      match D, D1, D2, D3, Dr, D5, et, D4, d60 with
      | [], D1, _, _, _, _, _, _, _ => exact absurd rfl D1
      | n :: R, _, D2, D3, Dr, D5, et, D4, d60 =>
        rw [List.length_cons] at D2 D3 d60
        have n1 := D5 n List.mem_cons_self
        have e0 : (w.2 211 R.length).toInt = (n : Int) := by
          have := Dr 0 n rfl
          rw [List.length_cons, show R.length + 1 - 1 - 0 = R.length by omega] at this
          exact this
        have c2R : c2.toInt = (R.length : Int) := by omega
        have eg : (zg s4 211 c2).toInt = (n : Int) := by
          rw [zg_K, r4, c2R, KI_n]
          exact e0
        have n7 : (n : Int) ≤ 2147483647 := by
          have := Int32.toInt_lt (zg s4 211 c2)
          omega
        rw [eg] at hx5
        have ex5 := hx5 (by omega)
        have F6 : PRt s s6 := PRt_tr F4' (by rw [hs6]; exact PRt_t)
        have c6 : ∀ j : Nat, s6.2 211 j = if j = R.length then x5 else s4.2 211 j := fun j => by
          rw [hs6, zt_e]
          by_cases e : j = R.length
          · rw [if_pos ⟨rfl, ⟨by omega, by rw [hlm]; omega⟩, by omega⟩, if_pos e]
          · rw [if_neg (fun q => e (by omega)), if_neg e]
        have O6 : OUz s6 (ouT (l ++ (t ++ pw c))) := by
          rw [hs6]
          exact OU_t O4
        obtain ⟨J, hJ⟩ : ∃ J : Int32 → Int32 → Int32 → Int32 → zS → Prop, ∀ b1 b2 b3 b4 u, J b1 b2 b3 b4 u ↔ (b1 = c1 ∧ b3 = c3 ∧ PRt s u ∧ ∃ (n : Nat) (R : List Nat) (t' : List Int), (b2.toInt = (R.length : Int) ∧ R.length ≤ i) ∧ (u.2 211 R.length).toInt = (n : Int) - 1 ∧ (1 ≤ n ∧ (n : Int) ≤ 2147483647) ∧ rwD u R ∧ (∀ m ∈ R, 1 ≤ m) ∧ isR ar (opD (n :: R) - 1) B ∧ OUz u (ouT (l ++ t')) ∧ t' ++ ((txC (n :: R)).1 ++ txR ar pw B (txC (n :: R)).2) = txT ar pw A) := ⟨_, fun _ _ _ _ _ => Iff.rfl⟩
        have r6 : rwD s6 R := fun j m hm => by
          have hj := (List.getElem?_eq_some_iff.mp hm).1
          rw [c6, if_neg (by omega), r4]
          have := Dr (j + 1) m hm
          rw [List.length_cons, show R.length + 1 - 1 - (j + 1) = R.length - 1 - j by omega] at this
          exact this
        refine ⟨J, fun _ b2 _ _ _ => b2.toInt.toNat, (hJ _ _ _ _ _).mpr ⟨rfl, rfl, F6, n, R, t ++ pw c, ⟨c2R, by omega⟩, by rw [c6, if_pos rfl]; exact ex5, ⟨n1, n7⟩, r6, fun m hm => D5 m (List.mem_cons_of_mem _ hm), by rw [ar0] at D4; rw [show opD (n :: R) - 1 = opD (n :: R) + 0 - 1 by omega]; exact D4, O6, by rw [List.append_assoc]; exact et⟩, ?_⟩
        intro b1 b2 b3 b4 u hu
        obtain ⟨rfl, rfl, Fu, n, R, t', ⟨b2R, Ri⟩, un, n1, ur, uR, uB, uO, ut⟩ := (hJ _ _ _ _ _).mp hu
        have nx : ∀ (u' : zS) (D' : List Nat) (t2 : List Int), PRt s u' → ¬ D' = [] → b2.toInt = (D'.length : Int) - 1 → rwD u' D' → isR ar (opD D') B → (D' = [0] ∨ ∀ n ∈ D', 1 ≤ n) → OUz u' (ouT (l ++ t2)) → t2 ++ txR ar pw B D' = txT ar pw A → v_32_92 (fun j => Zt (d + 9 + 8) (wd2 P j) j) P (fun a1' a2' a3' s' => I a1' a2' a3' s' ∧ (60 - a3'.toInt).toNat < (60 - b3.toInt).toNat) b1 b2 b3 b4 u' (fun v s' => v = none ∧ PRt s s' ∧ OUz s' (ouT (l ++ txT ar pw A))) := fun u' D' t2 g1 g2 g3 g4 g5 g6 g7 g8 => by
          unfold v_32_92
          intro q1 hq1
          have eq1 := hq1 (by omega)
          exact ⟨(hI _ _ _ _).mpr ⟨rfl, g1, i + 1, D', t2, by omega, by omega, ⟨g2, g3, by omega⟩, g4, ⟨by rw [hB]; exact g5, g6⟩, g7, by rw [hB]; exact g8⟩, by omega⟩
        have zb : (zg u 211 b2).toInt = (n : Int) - 1 := by
          rw [zg_K, b2R, KI_n]
          exact un
        unfold v_32_63 v_32_86
        match R, b2R, Ri, un, ur, uR, uB, ut with
        | [], b2R, Ri, un, ur, uR, uB, ut =>
          have b20 : b2.toInt = 0 := b2R
          refine ⟨fun _ => ⟨fun _ => nx u [n - 1] t' Fu (by intro z; cases z) (by rw [b20]; rfl) (fun j m hm => ?_) ?_ ?_ uO ?_, fun w => absurd (by omega) w⟩, fun w => absurd (by omega) w⟩
          · have hj := (List.getElem?_eq_some_iff.mp hm).1
            obtain rfl : j = 0 := by
              rw [List.length_singleton] at hj
              omega
            have hm : m = n - 1 := (Option.some.inj hm).symm
            rw [hm]
            have un : (u.2 211 0).toInt = (n : Int) - 1 := un
            show (u.2 211 0).toInt = _
            omega
          · have e : opD [n - 1] = opD [n] - 1 := by
              show ((n - 1 : Nat) : Int) - 1 + 1 = (n : Int) - 1 + 1 - 1
              omega
            rw [e]
            exact uB
          · by_cases e : n = 1
            · left
              rw [e]
            · right
              intro m hm
              rw [List.mem_singleton.mp hm]
              omega
          · exact ut
        | m :: R', b2R, Ri, un, ur, uR, uB, ut =>
          have hlR : (m :: R').length = R'.length + 1 := List.length_cons
          have b2p : ¬ b2.toInt ≤ 0 := by omega
          refine ⟨fun w => absurd w b2p, fun _ => ⟨fun hne => ⟨fun w => absurd w b2p, fun _ q1 hq1 => ?_⟩, fun he q1 hq1 x2 hx2 x3 hx3 q4 hq4 => ?_⟩⟩
          · rw [zb] at hne
            have n2 : 1 < n := by omega
            rw [txC_2 n2] at ut
            refine nx q1 ((n - 1) :: m :: R') (t' ++ [44]) (PRt_tr Fu (by rw [hq1]; exact PRt_a)) (by intro z; cases z) (by rw [List.length_cons, b2R]; omega) (fun j k hk => ?_) ?_ (Or.inr (fun k hk => ?_)) (by rw [hq1]; exact OU_s uO (by decide)) ?_
            · rw [hq1, za_r (by decide)]
              match j, hk with
              | 0, hk =>
                have hk : n - 1 = k := Option.some.inj hk
                rw [List.length_cons, show (m :: R').length + 1 - 1 - 0 = (m :: R').length by omega]
                omega
              | j + 1, hk =>
                have hj := (List.getElem?_eq_some_iff.mp hk).1
                rw [List.length_cons, show (m :: R').length + 1 - 1 - (j + 1) = (m :: R').length - 1 - j by omega]
                exact ur j k hk
            · have e : opD ((n - 1) :: m :: R') = opD (n :: m :: R') - 1 := by
                show ((n - 1 : Nat) : Int) - 1 + opD (m :: R') = (n : Int) - 1 + opD (m :: R') - 1
                omega
              rw [e]
              exact uB
            · rcases List.mem_cons.mp hk with rfl | hk
              · omega
              · exact uR k hk
            · rw [List.append_assoc]
              exact ut
          · rw [zb] at he
            obtain rfl : n = 1 := by omega
            rw [txC_1] at ut
            have ex2 := hx2 (by omega)
            have em : (u.2 211 R'.length).toInt = (m : Int) := by
              have := ur 0 m rfl
              rw [hlR, show R'.length + 1 - 1 - 0 = R'.length by omega] at this
              exact this
            have m7 : (m : Int) ≤ 2147483647 := by
              have := Int32.toInt_lt (u.2 211 R'.length)
              omega
            have e2 : (zg q1 211 x2).toInt = (m : Int) := by
              rw [hq1, zg_K, za_r (by decide), show x2.toInt = (R'.length : Int) by omega, KI_n]
              exact em
            rw [e2] at hx3
            have ex3 := hx3 (by omega)
            have c4 : ∀ j : Nat, q4.2 211 j = if j = R'.length then x3 else u.2 211 j := fun j => by
              rw [hq4, zt_e]
              by_cases e : j = R'.length
              · rw [if_pos ⟨rfl, ⟨by omega, by rw [hlm]; omega⟩, by omega⟩, if_pos e]
              · rw [if_neg (fun q => e (by omega)), if_neg e, hq1, za_r (by decide)]
            refine ⟨(hJ _ _ _ _ _).mpr ⟨rfl, rfl, PRt_tr Fu (PRt_tr (show PRt u q1 by rw [hq1]; exact PRt_a) (show PRt q1 q4 by rw [hq4]; exact PRt_t)), m, R', t' ++ [93], ⟨by omega, by omega⟩, by rw [c4, if_pos rfl]; exact ex3, ⟨uR m List.mem_cons_self, m7⟩, fun j k hk => ?_, fun k hk => uR k (List.mem_cons_of_mem _ hk), ?_, by rw [hq4, hq1]; exact OU_t (OU_s uO (by decide)), ?_⟩, by dsimp only; omega⟩
            · have hj := (List.getElem?_eq_some_iff.mp hk).1
              rw [c4, if_neg (by omega)]
              have := ur (j + 1) k hk
              rw [hlR, show R'.length + 1 - 1 - (j + 1) = R'.length - 1 - j by omega] at this
              exact this
            · have e : opD (1 :: m :: R') - 1 = opD (m :: R') - 1 := by
                show ((1 : Nat) : Int) - 1 + opD (m :: R') - 1 = _
                omega
              rw [← e]
              exact uB
            · rw [List.append_assoc]
              exact ut
    · rw [ear] at y1
      rw [if_pos (by omega)] at et
      have ex7 := hx7 (by omega)
      unfold v_32_92
      intro q1 hq1
      have eq1 := hq1 (by omega)
      have c9 : ∀ j : Nat, s9.2 211 j = if j = D.length then zg s4 (P + 22) (zg w (P + 18) x1) else w.2 211 j := fun j => by
        rw [hs9, za_r (by decide), hs8, zt_e]
        by_cases e : j = D.length
        · rw [if_pos ⟨rfl, ⟨by omega, by rw [hlm]; omega⟩, by omega⟩, if_pos e]
        · rw [if_neg (fun q => e (by omega)), if_neg e, r4]
      have har := h6 c
      refine ⟨(hI _ _ _ _).mpr ⟨rfl, PRt_tr F4' (PRt_tr (show PRt s4 s8 by rw [hs8]; exact PRt_t) (show PRt s8 s9 by rw [hs9]; exact PRt_a)), i + 1, (ar c).toNat :: D, t ++ pw c ++ [91], by omega, by omega, ⟨(by intro z; cases z), by rw [List.length_cons]; omega, by rw [List.length_cons]; omega⟩, fun j k hk => ?_, ⟨?_, Or.inr (fun k hk => ?_)⟩, by rw [hs9, hs8]; exact OU_s (OU_t O4) (by decide), ?_⟩, by dsimp only; omega⟩
      · rw [c9, List.length_cons]
        match j, hk with
        | 0, hk =>
          have hk : (ar c).toNat = k := Option.some.inj hk
          rw [if_pos (by omega), ear]
          omega
        | j + 1, hk =>
          have hj := (List.getElem?_eq_some_iff.mp hk).1
          rw [List.length_cons] at hj
          rw [if_neg (by omega), show D.length + 1 - 1 - (j + 1) = D.length - 1 - j by omega]
          exact Dr j k hk
      · rw [hB]
        have e : opD ((ar c).toNat :: D) = opD D + ar c - 1 := by
          show (((ar c).toNat : Nat) : Int) - 1 + opD D = _
          omega
        rw [e]
        exact D4
      · rcases List.mem_cons.mp hk with rfl | hk
        · omega
        · exact D5 k hk
      · rw [hB, ← et]
        simp only [List.append_assoc, List.cons_append, List.nil_append]
end ZYB
