/-! ===== the class: findTwice ===== -/
section WRF
variable {K L W : Int → Int} {lo hi n m t : Int} {Ls : List Int} {i : Nat} {P d : Nat} {s : zS} {a1 : Int32}
theorem slB_b (hS : SLc P s (aSl K L 0 Ls)) (hW : KI (s.2 (P + 10)) = W) {J : Nat} {Sl : List (Int × Int × Int × Int)} (hat : ∀ (jj : Nat) q, Sl[jj]? = some q → (aSl K L 0 Ls)[J + jj]? = some q) {inF : Bool} {p : Prop} (hp : p ↔ inF = true) {jj : Nat} (hj : jj < Sl.length) : slB s P (J : Int) p ((J : Int) + (jj : Int)) ↔ bdQ W inF Sl jj := by
  obtain ⟨q, hq⟩ : ∃ q, Sl[jj]? = some q := ⟨_, List.getElem?_eq_getElem hj⟩
  obtain ⟨c0, c1, c2, c4⟩ := hS _ _ (hat jj q hq)
  have ej : (J : Int) + (jj : Int) = ((J + jj : Nat) : Int) := by omega
  unfold slB
  rw [ej, c0, c1, c4, hW]
  constructor
  · rintro ⟨g1, g2, j, g3, g4, g5, g6, g7⟩
    obtain ⟨j', rfl⟩ : ∃ j' : Nat, j = ((J + j' : Nat) : Int) := ⟨(j - (J : Int)).toNat, by omega⟩
    have hj' : j' < jj := by omega
    obtain ⟨q', hq'⟩ : ∃ q', Sl[j']? = some q' := ⟨_, List.getElem?_eq_getElem (by omega)⟩
    obtain ⟨e0, e1, e2, e4⟩ := hS _ _ (hat j' q' hq')
    rw [e4] at g5
    rw [e1] at g6
    rw [e0] at g7
    refine ⟨q, hq, g1, ?_, j', q', hj', hq', g5, g6, g7⟩
    rcases g2 with g | g
    · exact Or.inl (hp.mp g)
    · exact Or.inr g
  · rintro ⟨q0, hq0, g1, g2, j', q', g3, g4, g5, g6, g7⟩
    rw [hq] at hq0
    have e := Option.some.inj hq0
    rw [← e] at g1 g2 g5 g6 g7
    obtain ⟨e0, e1, e2, e4⟩ := hS _ _ (hat j' q' g4)
    refine ⟨g1, ?_, ((J + j' : Nat) : Int), by omega, by omega, ?_, ?_, ?_⟩
    · rcases g2 with g | g
      · exact Or.inl (hp.mpr g)
      · exact Or.inr g
    · rw [e4]
      exact g5
    · rw [e1]
      exact g6
    · rw [e0]
      exact g7
/-- twiceInSlots -/
theorem zs_123d (hP : P = 3 ∨ P = 39) (hR : RWz K L P s m Ls) (hA : ALz K L P s m Ls) (hm : m ≤ 4000) (hL : Ls.length ≤ 4000) (hW : KI (s.2 (P + 10)) = W) (h1 : Ls[i]? = some t) (ha : a1.toInt = (i : Int)) : Zt (d + 10) (wd P 123) 123 [.ref 83, .int a1] s (fun v s' => s' = s ∧ ∃ r : Int32, v = some (.int r) ∧ r.toInt = anD W K L Ls i t) := by
  obtain ⟨⟨z1, z2, z3, z4, z5⟩, w1, w2, w3, w4⟩ := hR
  obtain ⟨hS, hS3⟩ := SLc_of w1
  have hil := (List.getElem?_eq_some_iff.mp h1).1
  have hdc : dcl s P (i : Int) 1 = ((aSl K L 0 (Ls.take i)).length : Int) ∧ dcl s P (i : Int) 2 = ((aSl K L 0 (Ls.take i)).length : Int) + ((sDc K L (kHd K L (Ls.take i) : Int) t).length : Int) ∧ (dcl s P (i : Int) 0 < 0 ↔ decide (K t = 6) = true) := by
    have k0 := dcl_n (s := s) (P := P) (d := i) (c := 0)
    have k1 := dcl_n (s := s) (P := P) (d := i) (c := 1)
    have k2 := dcl_n (s := s) (P := P) (d := i) (c := 2)
    obtain ⟨aF, aT⟩ := hA i t h1
    by_cases h6 : K t = 6
    · obtain ⟨b1, b2, b3⟩ := (aF h6).2.2.1
      refine ⟨k1.trans b2, k2.trans b3, ?_⟩
      have e0 : dcl s P (i : Int) 0 = -1 - (kFn K (Ls.take i) : Int) := k0.trans b1
      rw [e0]
      exact ⟨fun _ => decide_eq_true h6, fun _ => by omega⟩
    · obtain ⟨b1, b2, b3⟩ := (aT h6).2.2.2
      refine ⟨k1.trans b2, k2.trans b3, ?_⟩
      have e0 : dcl s P (i : Int) 0 = (kTy K (Ls.take i) : Int) := k0.trans b1
      rw [e0, decide_eq_false h6]
      exact ⟨fun e => by omega, fun e => by cases e⟩
  obtain ⟨dc1, dc2, dc0⟩ := hdc
  have hat : ∀ (jj : Nat) q, (sDc K L (kHd K L (Ls.take i) : Int) t)[jj]? = some q → (aSl K L 0 Ls)[(aSl K L 0 (Ls.take i)).length + jj]? = some q := fun jj q hq => aSl_at Ls i jj 0 t q h1 (by rw [show (0 : Int) + (kHd K L (Ls.take i) : Int) = (kHd K L (Ls.take i) : Int) by omega]; exact hq)
  have hle : (aSl K L 0 (Ls.take i)).length + (sDc K L (kHd K L (Ls.take i) : Int) t).length ≤ (aSl K L 0 Ls).length := by
    have e : aSl K L 0 (Ls.take (i + 1)) = aSl K L 0 (Ls.take i) ++ sDc K L (kHd K L (Ls.take i) : Int) t := by
      rw [take_s h1, aSl_app, show (0 : Int) + (kHd K L (Ls.take i) : Int) = (kHd K L (Ls.take i) : Int) by omega]
    have hh : ∀ (l : List Int) (k : Nat) (h : Int), (aSl K L h (l.take k)).length ≤ (aSl K L h l).length := by
      intro l
      induction l with
      | nil =>
        intro k h
        rw [List.take_nil]
        exact Nat.le_refl _
      | cons a l ih =>
        intro k h
        cases k with
        | zero => exact Nat.zero_le _
        | succ k =>
          rw [List.take_succ_cons, aSl_cons, aSl_cons, List.length_append, List.length_append]
          have := ih k (h + ((dHd K L a).length : Int))
          omega
    have := hh Ls (i + 1) 0
    rw [e, List.length_append] at this
    exact this
  generalize hJ : (aSl K L 0 (Ls.take i)).length = J at *
  unfold anD
  generalize hSl : sDc K L (kHd K L (Ls.take i) : Int) t = Sl at *
  refine Zt.imp (zs_123 hP (by omega) (by rw [ha, dc1, dc2]; omega)) ?_
  rintro v s' ⟨e1, r, e2, hr⟩
  refine ⟨e1, r, e2, ?_⟩
  rw [ha, dc1, dc2] at hr
  have eqv : ∀ jj : Nat, jj < Sl.length → (slB s P (J : Int) (dcl s P (i : Int) 0 < 0) ((J : Int) + (jj : Int)) ↔ bdQ W (decide (K t = 6)) Sl jj) := fun jj hj => slB_b hS hW hat dc0 hj
  rcases hr with ⟨j, j1, j2, j3, j4, j5⟩ | ⟨j1, j2⟩
  · obtain ⟨jj, rfl⟩ : ∃ jj : Nat, j = (J : Int) + (jj : Int) := ⟨(j - (J : Int)).toNat, by omega⟩
    have hjl : jj < Sl.length := by omega
    obtain ⟨q, hq⟩ : ∃ q, Sl[jj]? = some q := ⟨_, List.getElem?_eq_getElem hjl⟩
    rw [twQ_hit hq (fun k hk hb => j5 ((J : Int) + (k : Int)) (by omega) (by omega) ((eqv k (by omega)).mpr hb)) ((eqv jj hjl).mp j3), j4]
    have := (hS _ _ (hat jj q hq)).1
    rw [show (J : Int) + (jj : Int) = ((J + jj : Nat) : Int) by omega]
    exact this
  · rw [twQ_none (fun k hk hb => j2 ((J : Int) + (k : Int)) (by omega) (by omega) ((eqv k hk).mpr hb))]
    exact j1
/-- twiceOfFunc -/
theorem zs_127d (hP : P = 3 ∨ P = 39) (hA : ALz K L P s m Ls) (hF : kFn K Ls ≤ 60) (hH : (kHd K L Ls : Int) ≤ 4000) (hW : KI (s.2 (P + 10)) = W) (h1 : Ls[i]? = some t) (h6 : K t = 6) (ha : a1.toInt = (kFn K (Ls.take i) : Int)) : Zt (d + 10) (wd P 127) 127 [.ref 83, .int a1] s (fun v s' => s' = s ∧ ∃ r : Int32, v = some (.int r) ∧ r.toInt = anF W K L Ls i t) := by
  have cell : ∀ (F : Nat) (t' : Int), (fnL K Ls)[F]? = some t' → fnc s P (F : Int) 0 = (f_2 K L false (0, t')).2 ∧ fnc s P (F : Int) 6 = W (f_5 K L false (0, t')).2 ∧ ∃ h : Nat, fnc s P (F : Int) 5 = (h : Int) ∧ h < kHd K L Ls ∧ sgc s P (h : Int) 0 = (f_5 K L false (0, t')).2 := fun F t' hF' => by
    obtain ⟨i', i1, i2, i3⟩ := fnL_inv Ls F t' hF'
    obtain ⟨⟨g0, g1, g2, g3, g4⟩, ⟨c0, c1, c2, c3, c4, c5, c6, c7, c8, c9⟩, -⟩ := (hA i' t' i1).1 i2
    rw [← i3] at c0 c5 c6
    have kl := (k_lt (K := K) (L := L) Ls i' t' i1).2.2
    rw [if_pos i2] at kl
    refine ⟨(fnc_n (c := 0)).trans c0, ?_, kHd K L (Ls.take i'), (fnc_n (c := 5)).trans c5, by omega, ?_⟩
    · refine (fnc_n (c := 6)).trans (c6.trans ?_)
      rw [Int.toNat_natCast, g1, hW]
    · unfold sgc
      rw [show 5 * ((kHd K L (Ls.take i') : Nat) : Int) + 0 = ((5 * kHd K L (Ls.take i') : Nat) : Int) by omega, KI_n]
      exact g0
  have hat := fnL_at Ls i t h1 h6
  obtain ⟨k0, k6, hh, k5, kh, ks⟩ := cell _ t hat
  have kl := (k_lt (K := K) (L := L) Ls i t h1).2.1
  rw [if_pos h6] at kl
  refine Zt.imp (zs_127 hP (by omega) (by rw [ha, k5]; omega)) ?_
  rintro v s' ⟨e1, r, e2, hr⟩
  refine ⟨e1, r, e2, ?_⟩
  rw [ha, k5, ks] at hr
  have key : fnB s P (kFn K (Ls.take i) : Int) ↔ anyF W ((fnP K L Ls).take (kFn K (Ls.take i))) (f_2 K L false (0, t)).2 (f_5 K L false (0, t)).2 = true := by
    unfold fnB anyF
    rw [k0, k6, hW, List.any_eq_true]
    constructor
    · rintro ⟨j, j1, j2, j3, j4⟩
      obtain ⟨j', rfl⟩ : ∃ j' : Nat, j = (j' : Int) := ⟨j.toNat, by omega⟩
      have hl : j' < (fnL K Ls).length := by rw [fnL_len]; omega
      obtain ⟨t', ht'⟩ : ∃ t', (fnL K Ls)[j']? = some t' := ⟨_, List.getElem?_eq_getElem hl⟩
      obtain ⟨m0, m6, -⟩ := cell j' t' ht'
      rw [m6] at j3
      rw [m0] at j4
      refine ⟨((f_2 K L false (0, t')).2, (f_5 K L false (0, t')).2), List.mem_of_getElem? (i := j') ?_, decide_eq_true ⟨j4, j3⟩⟩
      rw [List.getElem?_take, if_pos (by omega)]
      unfold fnP
      rw [List.getElem?_map, ht']
      rfl
    · rintro ⟨p, p1, p2⟩
      obtain ⟨j', j1, j2⟩ := List.mem_iff_getElem.mp p1
      have j3 : j' < kFn K (Ls.take i) := by
        rw [List.length_take] at j1
        omega
      have j4 : ((fnP K L Ls).take (kFn K (Ls.take i)))[j']? = some p := by rw [List.getElem?_eq_getElem j1, j2]
      rw [List.getElem?_take, if_pos j3] at j4
      unfold fnP at j4
      rw [List.getElem?_map] at j4
      obtain ⟨t', ht', e⟩ := Option.map_eq_some_iff.mp j4
      obtain ⟨m0, m6, -⟩ := cell j' t' ht'
      have p3 := of_decide_eq_true p2
      rw [← e] at p3
      exact ⟨(j' : Int), by omega, by omega, by rw [m6]; exact p3.2, by rw [m0]; exact p3.1⟩
  unfold anF
  rcases hr with ⟨r1, r2⟩ | ⟨r1, r2⟩
  · rw [if_pos (key.mp r1)]
    exact r2
  · rw [if_neg (fun e => r2 (key.mpr e))]
    exact r1
/-- the first of names that was told ahead -/
theorem t1_st {l : List Int} : ∀ m : Nat, m ≤ l.length → (∀ (j : Nat) (v : Int), j < m → l[j]? = some v → anyW W (l.take j) v = false) → fT (tw1 W [] l) = fT (tw1 W (l.take m) (l.drop m))
  | 0, _, _ => by rw [List.take_zero, List.drop_zero]
  | m + 1, hm, h => by
    rw [t1_st m (by omega) (fun j v hj hv => h j v (by omega) hv)]
    obtain ⟨q, hq⟩ : ∃ q, l[m]? = some q := ⟨_, List.getElem?_eq_getElem (by omega)⟩
    have e1 : l.drop m = q :: l.drop (m + 1) := by
      rw [List.drop_eq_getElem_cons (by omega)]
      have := (List.getElem?_eq_some_iff.mp hq).2
      rw [this]
    rw [e1, take_s hq]
    show (if anyW W (l.take m) q = true then q else fT (tw1 W (l.take m ++ [q]) (l.drop (m + 1)))) = _
    rw [h m q (by omega) hq, if_neg (by decide)]
/-- twiceOfType -/
theorem zs_126d (hP : P = 3 ∨ P = 39) (hR : RWz K L P s m Ls) (hA : ALz K L P s m Ls) (hm : m ≤ 4000) (hT : kTy K Ls ≤ 24) (hW : KI (s.2 (P + 10)) = W) (hM : ∀ t', t' ∈ Ls → (tMe K L false (0, t')).length ≤ 7) (h1 : Ls[i]? = some t) (h6 : ¬ K t = 6) (ha : a1.toInt = (kTy K (Ls.take i) : Int)) : Zt (d + 10) (wd P 126) 126 [.ref 83, .int a1] s (fun v s' => s' = s ∧ ∃ r : Int32, v = some (.int r) ∧ r.toInt = anT W K L Ls i t) := by
  obtain ⟨⟨z1, z2, z3, z4, z5⟩, w1, w2, w3, w4⟩ := hR
  have cell : ∀ (T : Nat) (t' : Int), (tyL K Ls)[T]? = some t' → tyc s P (T : Int) 0 = t' + 1 := fun T t' hT' => by
    obtain ⟨i', i1, i2, i3⟩ := tyL_inv Ls T t' hT'
    have c := ((hA i' t' i1).2 i2).2.2.1.1
    rw [← i3] at c
    exact (tyc_n (c := 0)).trans c
  obtain ⟨b1, b2, ⟨c0, c1, c2, c3, c4, c5⟩, b4⟩ := (hA i t h1).2 h6
  have kl := k_lt (K := K) (L := L) Ls i t h1
  rw [if_neg h6, if_neg h6, if_neg h6] at kl
  have hm7 := hM t (List.mem_of_getElem? h1)
  have t0 := (tyc_n (s := s) (P := P) (d := kTy K (Ls.take i)) (c := 0)).trans c0
  have t1 := (tyc_n (s := s) (P := P) (d := kTy K (Ls.take i)) (c := 1)).trans c1
  have t3 := (tyc_n (s := s) (P := P) (d := kTy K (Ls.take i)) (c := 3)).trans c3
  have t4 := (tyc_n (s := s) (P := P) (d := kTy K (Ls.take i)) (c := 4)).trans c4
  have hJ : ((aSl K L 0 (Ls.take i)).length : Int) + ((tFo K L false (0, t)).length : Int) ≤ 4000 := by
    have e : aSl K L 0 (Ls.take (i + 1)) = aSl K L 0 (Ls.take i) ++ sDc K L (kHd K L (Ls.take i) : Int) t := by
      rw [take_s h1, aSl_app, show (0 : Int) + (kHd K L (Ls.take i) : Int) = (kHd K L (Ls.take i) : Int) by omega]
    have hh : ∀ (l : List Int) (k : Nat) (h : Int), (aSl K L h (l.take k)).length ≤ (aSl K L h l).length := by
      intro l
      induction l with
      | nil =>
        intro k h
        rw [List.take_nil]
        exact Nat.le_refl _
      | cons a l ih =>
        intro k h
        cases k with
        | zero => exact Nat.zero_le _
        | succ k =>
          rw [List.take_succ_cons, aSl_cons, aSl_cons, List.length_append, List.length_append]
          have := ih k (h + ((dHd K L a).length : Int))
          omega
    have h9 := hh Ls (i + 1) 0
    rw [e, List.length_append] at h9
    have : (tFo K L false (0, t)).length ≤ (sDc K L (kHd K L (Ls.take i) : Int) t).length := by
      unfold sDc tSlt
      rw [if_neg h6, List.length_append, nmS_len]
      omega
    omega
  have b3 : 0 ≤ tyc s P a1.toInt 3 ∧ tyc s P a1.toInt 3 ≤ 4000 := by
    rw [ha]
    refine ⟨?_, ?_⟩
    · show 0 ≤ tyc s P ((kTy K (Ls.take i) : Nat) : Int) ((3 : Nat) : Int)
      rw [t3]
      split <;> omega
    · show tyc s P ((kTy K (Ls.take i) : Nat) : Int) ((3 : Nat) : Int) ≤ 4000
      rw [t3]
      split <;> omega
  have b4' : 0 ≤ tyc s P a1.toInt 4 ∧ tyc s P a1.toInt 4 ≤ 100 := by
    rw [ha]
    have e : tyc s P ((kTy K (Ls.take i) : Nat) : Int) 4 = ((tMe K L false (0, t)).length : Int) := t4
    rw [e]
    omega
  refine Zt.imp (zs_126 hP (by omega) b3 b4' rfl) ?_
  rintro v s' ⟨e1, r, e2, hr⟩
  refine ⟨e1, r, e2, ?_⟩
  rw [ha] at hr
  have ety : tyB s P ((kTy K (Ls.take i) : Nat) : Int) ↔ anyW W ((tNm K Ls).take (kTy K (Ls.take i))) (t + 1) = true := by
    unfold tyB
    have e0 : tyc s P ((kTy K (Ls.take i) : Nat) : Int) 0 = t + 1 := t0
    rw [e0, hW, anyW_t]
    constructor
    · rintro ⟨j, j1, j2, j3⟩
      obtain ⟨j', rfl⟩ : ∃ j' : Nat, j = (j' : Int) := ⟨j.toNat, by omega⟩
      have hl : j' < (tyL K Ls).length := by rw [tyL_len]; omega
      obtain ⟨t', ht'⟩ : ∃ t', (tyL K Ls)[j']? = some t' := ⟨_, List.getElem?_eq_getElem hl⟩
      rw [cell j' t' ht'] at j3
      refine ⟨j', t' + 1, ?_, j3⟩
      rw [List.getElem?_take, if_pos (by omega)]
      unfold tNm
      rw [List.getElem?_map, ht']
      rfl
    · rintro ⟨j', u, j1, j2⟩
      have j3 : j' < kTy K (Ls.take i) := by
        have := (List.getElem?_eq_some_iff.mp j1).1
        rw [List.length_take] at this
        omega
      rw [List.getElem?_take, if_pos j3] at j1
      unfold tNm at j1
      rw [List.getElem?_map] at j1
      obtain ⟨t', ht', e⟩ := Option.map_eq_some_iff.mp j1
      refine ⟨(j' : Int), by omega, by omega, ?_⟩
      rw [cell j' t' ht', e]
      exact j2
  have e0 : tyc s P ((kTy K (Ls.take i) : Nat) : Int) 0 = t + 1 := t0
  have e3 : tyc s P ((kTy K (Ls.take i) : Nat) : Int) 3 = if tSt K L false (0, t) = true then ((aSl K L 0 (Ls.take i)).length : Int) + ((tFo K L false (0, t)).length : Int) else (kHd K L (Ls.take i) : Int) := t3
  have e4 : tyc s P ((kTy K (Ls.take i) : Nat) : Int) 4 = ((tMe K L false (0, t)).length : Int) := t4
  have einf : (zInf s P a1).toInt = 0 ↔ tSt K L false (0, t) = true := by
    unfold zInf
    rw [cn_ty z1 (by omega), zg_ty (s := s) (P := P) (a1 := a1) (c := 1) (k := 1) (by decide) (by decide) (by omega), ha]
    have e1' : tyc s P ((kTy K (Ls.take i) : Nat) : Int) 1 = if tSt K L false (0, t) = true then 4 else 5 := t1
    rw [e1']
    by_cases hst : tSt K L false (0, t) = true
    · rw [if_pos hst, if_neg (fun e => absurd e.2 (by decide))]
      exact ⟨fun _ => hst, fun _ => by decide⟩
    · rw [if_neg hst, if_pos ⟨by omega, rfl⟩]
      exact ⟨fun e => absurd e (by decide), fun e => absurd e hst⟩
  unfold anT
  rcases hr with ⟨r1, r2⟩ | ⟨r1, r2⟩
  · rw [if_pos (ety.mp r1), r2]
    exact e0
  · rw [if_neg (fun e => r1 (ety.mpr e))]
    by_cases hst : tSt K L false (0, t) = true
    · rw [if_pos hst]
      rw [if_pos (einf.mpr hst)] at r2
      rcases r2 with ⟨j, j1, j2, -⟩ | ⟨j1, -⟩
      · omega
      · exact j1
    · rw [if_neg hst]
      rw [if_neg (fun e => hst (einf.mp e)), e3, if_neg hst, e4] at r2
      have hgs := b1 (by cases hh : tSt K L false (0, t) with | false => rfl | true => exact absurd hh hst)
      have hsg : ∀ (j : Nat) (q : Int), (tMe K L false (0, t))[j]? = some q → sgc s P ((kHd K L (Ls.take i) : Int) + (j : Int)) 0 = q ∧ sgc s P ((kHd K L (Ls.take i) : Int) + (j : Int)) 1 = W q := fun j q hq => by
        obtain ⟨g0, g1, -⟩ := SGhs_at _ _ j _ q hgs hq
        unfold sgc
        constructor
        · rw [show 5 * ((kHd K L (Ls.take i) : Int) + (j : Int)) + 0 = ((5 * (kHd K L (Ls.take i) + j) : Nat) : Int) by omega, KI_n]
          exact g0
        · rw [show 5 * ((kHd K L (Ls.take i) : Int) + (j : Int)) + 1 = ((5 * (kHd K L (Ls.take i) + j) + 1 : Nat) : Int) by omega, KI_n, g1, hW]
      have ehd : ∀ (j : Nat) (q : Int), (tMe K L false (0, t))[j]? = some q → (hdB s P (kHd K L (Ls.take i) : Int) (j : Int) ↔ anyW W ((tMe K L false (0, t)).take j) q = true) := fun j q hq => by
        unfold hdB
        rw [(hsg j q hq).2, anyW_t]
        constructor
        · rintro ⟨k, k1, k2, k3⟩
          obtain ⟨k', rfl⟩ : ∃ k' : Nat, k = (k' : Int) := ⟨k.toNat, by omega⟩
          have hl := (List.getElem?_eq_some_iff.mp hq).1
          obtain ⟨q', hq'⟩ : ∃ q', (tMe K L false (0, t))[k']? = some q' := ⟨_, List.getElem?_eq_getElem (by omega)⟩
          rw [(hsg k' q' hq').2] at k3
          refine ⟨k', q', ?_, k3.symm⟩
          rw [List.getElem?_take, if_pos (by omega)]
          exact hq'
        · rintro ⟨k', q', k1, k2⟩
          have k3 : k' < j := by
            have := (List.getElem?_eq_some_iff.mp k1).1
            rw [List.length_take] at this
            omega
          rw [List.getElem?_take, if_pos k3] at k1
          exact ⟨(k' : Int), by omega, by omega, by rw [(hsg k' q' k1).2]; exact k2.symm⟩
      have noB : ∀ (j : Nat) (q : Int), (tMe K L false (0, t))[j]? = some q → ¬ hdB s P (kHd K L (Ls.take i) : Int) (j : Int) → anyW W ((tMe K L false (0, t)).take j) q = false := fun j q hq hn => by
        cases hh : anyW W ((tMe K L false (0, t)).take j) q with
        | false => rfl
        | true => exact absurd ((ehd j q hq).mpr hh) hn
      rcases r2 with ⟨j, j1, j2, j3, j4, j5⟩ | ⟨j1, j2⟩
      · obtain ⟨j', rfl⟩ : ∃ j' : Nat, j = (j' : Int) := ⟨j.toNat, by omega⟩
        have hl : j' < (tMe K L false (0, t)).length := by omega
        obtain ⟨q', hq'⟩ : ∃ q', (tMe K L false (0, t))[j']? = some q' := ⟨_, List.getElem?_eq_getElem hl⟩
        rw [t1_st j' (by omega) (fun k v hk hv => noB k v hv (j5 (k : Int) (by omega) (by omega)))]
        have e9 : (tMe K L false (0, t)).drop j' = q' :: (tMe K L false (0, t)).drop (j' + 1) := by
          rw [List.drop_eq_getElem_cons hl]
          have := (List.getElem?_eq_some_iff.mp hq').2
          rw [this]
        rw [e9]
        show r.toInt = if anyW W ((tMe K L false (0, t)).take j') q' = true then q' else _
        rw [if_pos ((ehd j' q' hq').mp j3), j4]
        exact (hsg j' q' hq').1
      · rw [t1_st (tMe K L false (0, t)).length (Nat.le_refl _) (fun k v hk hv => noB k v hv (j2 (k : Int) (by omega) (by omega))), List.drop_length]
        exact j1
end WRF
