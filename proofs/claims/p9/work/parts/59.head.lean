/-! ===== readHead ===== -/
def cH (N h : Nat) (p : Nat) : Nat := if p ∈ ndB then N else if p ∈ hR then h else if p ∈ h6 then 6 * h else 20000
def RHa (own : Nat → Nat × Nat) (b n N : Nat) (s : yS) (h : Nat) : Prop := tkN b n s (s.2.1 244 h).toInt ∧ 0 ≤ (s.2.1 245 h).toInt ∧ (s.2.1 245 h).toInt ≤ 6 ∧ SL own b n N s 246 247 (6 * h) (s.2.1 245 h).toInt.toNat ∧ 0 ≤ (s.2.1 248 h).toInt ∧ (s.2.1 248 h).toInt ≤ 6 ∧ SL own b n N s 249 250 (6 * h) (s.2.1 248 h).toInt.toNat
/-- a head is read -/
def RH (own : Nat → Nat × Nat) (b n N : Nat) (s : yS) (h : Nat) : Prop := RHa own b n N s h ∧ YS own b n N s 251 h
section RHS
variable {own own' : Nat → Nat × Nat} {b n N N' : Nat} {s t : yS} {h : Nat}
theorem RHa_eq (hr : RHa own b n N s h) (nd : ND N s t) (hc : ∀ p ∈ [244, 245, 248], t.2.1 p h = s.2.1 p h) (hc6 : ∀ p ∈ h6, ∀ j, j < 6 → t.2.1 p (6 * h + j) = s.2.1 p (6 * h + j)) (ho : ∀ x, x < N → own' x = own x) (hN : N ≤ N') : RHa own' b n N' t h := by
  obtain ⟨h1, h2, h3, h4, h5, h6, h7⟩ := hr
  have e1 := hc 244 (by decide)
  have e2 := hc 245 (by decide)
  have e3 := hc 248 (by decide)
  unfold RHa
  rw [e1, e2, e3]
  exact ⟨tkN_eq nd.2.1 nd.2.2 h1, h2, h3, SL_eq h4 nd (fun j hj => ⟨hc6 _ (by decide) j (by omega), hc6 _ (by decide) j (by omega)⟩) ho hN, h5, h6, SL_eq h7 nd (fun j hj => ⟨hc6 _ (by decide) j (by omega), hc6 _ (by decide) j (by omega)⟩) ho hN⟩
theorem RH_eq (hr : RH own b n N s h) (nd : ND N s t) (hc : ∀ p ∈ hR, t.2.1 p h = s.2.1 p h) (hc6 : ∀ p ∈ h6, ∀ j, j < 6 → t.2.1 p (6 * h + j) = s.2.1 p (6 * h + j)) (ho : ∀ x, x < N → own' x = own x) (hN : N ≤ N') : RH own' b n N' t h := ⟨RHa_eq hr.1 nd (fun p hp => hc p (by revert hp; unfold hR; simp only [List.mem_cons]; grind)) hc6 ho hN, YS_eq nd (hc _ (by decide)) ho hN hr.2⟩
end RHS
theorem cH_r {N h p : Nat} (hp : p ∈ hR) : cH N h p = h := by
  have : p ∉ ndB := by revert p; decide
  unfold cH
  rw [if_neg this, if_pos hp]
theorem cH_6 {N h p : Nat} (hp : p ∈ h6) : cH N h p = 6 * h := by
  have h1 : p ∉ ndB := by revert p; decide
  have h2 : p ∉ hR := by revert p; decide
  unfold cH
  rw [if_neg h1, if_neg h2, if_pos hp]
theorem zl_hR {p : Nat} (hp : p ∈ hR) : zl p = 204 := by revert p; decide
theorem zl_h6 {p : Nat} (hp : p ∈ h6) : zl p = 1224 := by revert p; decide
/-- a head so far -/
def VI (own : Nat → Nat × Nat) (b n W h : Nat) (s t : yS) : Prop := TS b n W 0 3 t ∧ NF b (cH (s.1 26).toInt.toNat h) s t ∧ (s.1 26).toInt ≤ (t.1 26).toInt ∧ (t.1 42).toInt = (h : Int) ∧ 0 ≤ (t.2.1 248 h).toInt ∧ (t.2.1 248 h).toInt ≤ 6 ∧ ((t.1 8).toInt = 0 → (s.1 7).toInt < (t.1 7).toInt ∧ ∃ own' : Nat → Nat × Nat, (∀ x, x < (s.1 26).toInt.toNat → own' x = own x) ∧ RHa own' b n (t.1 26).toInt.toNat t h)
theorem VI_sf {own : Nat → Nat × Nat} {b n W h : Nat} {s t : yS} {x y z : Int32} (hI : VI own b n W h s t) (hT : TS b n W 0 3 (sf (sf t 8 y) 7 x)) (hx : (t.1 7).toInt ≤ x.toInt) (hy : y.toInt = 0 → (t.1 8).toInt = 0) : VI own b n W h s (sf (sf (sf t 8 y) 7 x) 27 z) := by
  obtain ⟨h1, h2, h3, h4, h5, h6, h7⟩ := hI
  refine ⟨TS_27 hT, NF_sf (NF_sf (NF_sf h2 (by decide)) (by decide)) (by decide), h3, h4, h5, h6, fun q => ?_⟩
  obtain ⟨g1, own', g2, g3⟩ := h7 (hy q)
  exact ⟨by show _ < x.toInt; omega, own', g2, RHa_eq g3 ⟨fun _ _ _ _ => rfl, rfl, rfl⟩ (fun _ _ => rfl) (fun _ _ _ _ => rfl) (fun _ _ => rfl) (Nat.le_refl _)⟩
/-- readHead's end, begun without a fault -/
def HQ (own : Nat → Nat × Nat) (b n W h : Nat) (s s' : yS) : Prop := TS b n W 0 3 s' ∧ NF b (cH (s.1 26).toInt.toNat h) s s' ∧ (s.1 26).toInt ≤ (s'.1 26).toInt ∧ (s'.1 42).toInt = (h : Int) + 1 ∧ ((s'.1 8).toInt = 0 → (s.1 7).toInt < (s'.1 7).toInt ∧ ∃ own' : Nat → Nat × Nat, (∀ x, x < (s.1 26).toInt.toNat → own' x = own x) ∧ RH own' b n (s'.1 26).toInt.toNat s' h)
theorem v140 {own : Nat → Nat × Nat} {e b n W h : Nat} {a1 a2 t2 : Int32} {s u : yS} (hh : 204 * b ≤ h ∧ h < 204 * (b + 1)) (h1 : a1.toInt = (h : Int)) (hT : TS b n W 0 3 u) (hN : NF b (cH (s.1 26).toInt.toNat h) s u) (h26 : (s.1 26).toInt ≤ (u.1 26).toInt) (h42 : (u.1 42).toInt = (h : Int)) (hq : (u.1 8).toInt = 0 → (s.1 7).toInt < (u.1 7).toInt ∧ ∃ own' : Nat → Nat × Nat, (∀ x, x < (s.1 26).toInt.toNat → own' x = own x) ∧ RHa own' b n (u.1 26).toInt.toNat u h ∧ ∃ y hh : Nat, t2.toInt = (y : Int) ∧ 4002 * b ≤ y ∧ hh ≤ (u.1 26).toInt.toNat ∧ isY b n u 11 hh y ∧ ∀ x, y ≤ x → x < hh → own' x = (251, h)) : w_183_140 (Tot e) a1 a2 a1 t2 u (fun v s' => v = none ∧ HQ own b n W h s s') := by
  have hb := hT.2.2.1
  have e1 : a1.toInt.toNat = h := by omega
  unfold w_183_140
  refine ⟨by omega, ?_⟩
  rintro s1 rfl
  rw [e1]
  have q42 : (sa u 251 h t2).1 42 = u.1 42 := rfl
  rw [q42]
  refine ⟨by omega, ?_⟩
  rintro x2 hx2 s3 rfl
  refine ⟨rfl, TS_sa (p := 251) (i := h) (v := t2) hT (by decide), NF_sf (NF_sa hN (by rw [cH_r (by decide), zl_hR (by decide)]; omega)) (by decide), h26, by show x2.toInt = _; omega, fun q => ?_⟩
  obtain ⟨g1, own', g2, g3, y, yh, g4, g5, g6, g7, g8⟩ := hq q
  have nd : ND (u.1 26).toInt.toNat u (sf (sa u 251 h t2) 42 x2) := ND_sf (ND_sa ND_rf (by decide))
  refine ⟨g1, own', g2, RHa_eq g3 nd (fun p hp => ?_) (fun p hp j _ => ?_) (fun _ _ => rfl) (Nat.le_refl _), y, yh, ?_, g5, g6, isY_nd nd g6 g7, g8⟩
  · show (sa u 251 h t2).2.1 p h = _
    rw [sa_2, if_neg (fun w => by rw [w.1] at hp; revert hp; decide)]
  · show (sa u 251 h t2).2.1 p _ = _
    rw [sa_2, if_neg (fun w => by rw [w.1] at hp; revert hp; decide)]
  · show ((sa u 251 h t2).2.1 251 h).toInt = _
    rw [sa_2, if_pos ⟨rfl, rfl⟩]
    exact g4
theorem v124 {own : Nat → Nat × Nat} {e b n W h : Nat} {a1 a2 : Int32} {s t : yS} (hh : 204 * b ≤ h ∧ h < 204 * (b + 1)) (h1 : a1.toInt = (h : Int)) (hs : 4002 * (b : Int) ≤ (s.1 26).toInt) (hI : VI own b n W h s t) : w_183_124 (Tot (e + 26)) a1 a2 t (fun v s' => v = none ∧ HQ own b n W h s s') := by
  unfold w_183_124
  refine Tot.imp (Tot.mono (by omega) (ts_167 (d := 0) (ch := 41) hI.1 (by decide) (by decide))) ?_
  rintro v s3 ⟨rfl, x, y, rfl, T3, hx, q3⟩
  refine ⟨rfl, ?_⟩
  rintro s4 rfl
  have V := VI_sf (z := 0) hI (TS_mo T3 (by decide) (by decide)) hx (fun q => (q3 q).1.1)
  have q8 : (sf (sf (sf t 8 y) 7 x) 27 0).1 8 = y := rfl
  rw [q8]
  refine ⟨fun y0 => v140 hh h1 V.1 V.2.1 V.2.2.1 V.2.2.2.1 (fun q => absurd q y0), fun y0 => ?_⟩
  refine Tot.imp (Tot.mono (by omega) (ts_173 (d := 0) (TS_27 (v := 0) T3) (by decide) y0 (by show (0 : Int32).toInt = 0; decide))) ?_
  rintro v s5 ⟨rfl, T5, f5, n5, q5⟩
  refine ⟨_, rfl, ?_⟩
  have dv : (t.1 26).toInt.toNat / 4002 = b := TS_dv (s := sf (sf t 8 y) 7 x) T3 (by decide)
  have p26 : (sf (sf (sf t 8 y) 7 x) 27 0).1 26 = t.1 26 := rfl
  have p7 : (sf (sf (sf t 8 y) 7 x) 27 0).1 7 = x := rfl
  rw [p26] at f5 n5 q5 ⊢
  rw [p7] at q5
  obtain ⟨v1, v2, v3, v4, v5, v6, v7⟩ := V
  have v3' : (s.1 26).toInt ≤ (t.1 26).toInt := v3
  refine v140 hh h1 (TS_mo T5 (by decide) (by decide)) (NF_tr v2 (NF_fr (c := cH (s.1 26).toInt.toNat h) f5 dv (fun p hp => by unfold cH; rw [if_pos hp]; omega)) (fun _ => Nat.le_refl _)) (by omega) (by rw [f5.1 42 (by decide)]; exact v4) (fun q => ?_)
  obtain ⟨g1, own', g2, g3⟩ := v7 y0
  have g1' : (s.1 7).toInt < x.toInt := g1
  have nd : ND (t.1 26).toInt.toNat (sf (sf (sf t 8 y) 7 x) 27 0) s5 := ND_fr f5
  refine ⟨by have := (q5 q).1; omega, fun z => if z < (t.1 26).toInt.toNat then own' z else (251, h), fun z hz => ?_, RHa_eq g3 nd (fun p hp => ?_) (fun p hp j _ => ?_) (fun z hz => if_pos hz) (by show (t.1 26).toInt.toNat ≤ _; omega), (t.1 26).toInt.toNat, (s5.1 26).toInt.toNat, by omega, by omega, Nat.le_refl _, (q5 q).2, fun z z1 _ => if_neg (by omega)⟩
  · show (if z < _ then _ else _) = _
    rw [if_pos (by omega)]
    exact g2 z hz
  · rw [Fr_row f5 (by revert p; decide)]
  · rw [Fr_row f5 (by revert p; decide)]
theorem v51 {own : Nat → Nat × Nat} {e b n W h : Nat} {a1 a2 : Int32} {s t : yS} (hh : 204 * b ≤ h ∧ h < 204 * (b + 1)) (h1 : a1.toInt = (h : Int)) (hs : 4002 * (b : Int) ≤ (s.1 26).toInt) (hI : VI own b n W h s t) : wl_183_51 (Tot (e + 26)) a1 a2 t (fun v s' => v = none ∧ HQ own b n W h s s') := by
  refine ⟨fun b1 _ u => b1 = a1 ∧ VI own b n W h s u, fun _ _ s' => if (s'.1 8).toInt = 0 then (14000 - (s'.1 7).toInt).toNat + 1 else 0, ⟨rfl, hI⟩, ?_⟩
  clear hI t a2
  rintro b1 a2 t ⟨eb, hI⟩
  have eb := eb.symm
  subst eb
  obtain ⟨i1, i2, i3, i4, i5, i6, i7⟩ := id hI
  have hb := i1.2.2.1
  have e1 : a1.toInt.toNat = h := by omega
  have mu : ∀ s' : yS, (t.1 8).toInt = 0 → ((s'.1 8).toInt = 0 → (t.1 7).toInt < (s'.1 7).toInt) → (if (s'.1 8).toInt = 0 then (14000 - (s'.1 7).toInt).toNat + 1 else 0) < (if (t.1 8).toInt = 0 then (14000 - (t.1 7).toInt).toNat + 1 else 0) := by
    intro s' h1 h2
    have := i1.2.1.2.2.2.1
    rw [if_pos h1]
    split
    · rename_i h3
      have := h2 h3
      omega
    · omega
  unfold w_183_51
  refine ⟨fun _ => v124 hh h1 hs hI, fun _ => ⟨fun _ => v124 hh h1 hs hI, fun t8 => ?_⟩⟩
  have cont : ∀ (a3 a4 : Int32) (t' : yS), VI own b n W h s t' → ((t'.1 8).toInt = 0 → (t.1 7).toInt < (t'.1 7).toInt) → w_183_119 (Tot (e + 26)) (fun a1' _ s' => (a1' = a1 ∧ VI own b n W h s s') ∧ (if (s'.1 8).toInt = 0 then (14000 - (s'.1 7).toInt).toNat + 1 else 0) < (if (t.1 8).toInt = 0 then (14000 - (t.1 7).toInt).toNat + 1 else 0)) a1 a2 a3 a4 t' (fun v s' => v = none ∧ HQ own b n W h s s') := by
    intro a3 a4 t' hV hlt
    unfold w_183_119
    refine Tot.imp (Tot.mono (by omega) (ts_168 (d := 0) (ch := 44) hV.1)) ?_
    rintro v s1 ⟨r, rfl, g⟩
    refine ⟨r, rfl, ?_⟩
    rcases g with ⟨-, g1, x, g2, rfl, g3⟩ | ⟨-, -, rfl⟩
    · have e : sf t' 7 x = sf (sf (sf t' 8 (t'.1 8)) 7 x) 27 (t'.1 27) := by
        rw [sf_id, show t'.1 27 = (sf t' 7 x).1 27 from rfl, sf_id]
      have e2 : sf t' 7 x = sf (sf t' 8 (t'.1 8)) 7 x := by rw [sf_id]
      refine ⟨⟨rfl, ?_⟩, mu _ t8 (fun q => ?_)⟩
      · rw [e]
        rw [e2] at g3
        exact VI_sf hV (TS_mo g3 (by decide) (Int.le_refl _)) (by omega) (fun q => q)
      · have := hlt q
        show _ < x.toInt
        omega
    · exact ⟨⟨rfl, hV⟩, mu _ t8 hlt⟩
  have go : ∀ t1 : yS, t1.1 26 = t.1 26 → t1.1 7 = t.1 7 → VI own b n W h s t1 → TS b n W 0 0 t1 → t1.2 = t.2 → ((t1.1 8).toInt = 0 → nmAt t1 → (t.2.1 248 h).toInt ≤ 5) → w_183_70 (Tot (e + 26)) (fun a1' _ s' => (a1' = a1 ∧ VI own b n W h s s') ∧ (if (s'.1 8).toInt = 0 then (14000 - (s'.1 7).toInt).toNat + 1 else 0) < (if (t.1 8).toInt = 0 then (14000 - (t.1 7).toInt).toNat + 1 else 0)) a1 a2 t1 (fun v s' => v = none ∧ HQ own b n W h s s') := by
    intro t1 e26 e7 hV hT e2 h5
    unfold w_183_70
    refine Tot.imp (Tot.mono (by omega) (ts_170 (d := 0) hT (by decide) (by decide))) ?_
    rintro v s2 ⟨rfl, x, y, rfl, T2, hx, q2⟩
    refine ⟨_, rfl, ?_⟩
    rintro s4 rfl
    have q8 : (sf (sf (sf t1 8 y) 7 x) 27 0).1 8 = y := rfl
    rw [q8]
    have V4 : VI own b n W h s (sf (sf (sf t1 8 y) 7 x) 27 0) := VI_sf hV (TS_mo T2 (by decide) (by decide)) (by omega) (fun q => (q2 q).1.1)
    refine ⟨fun y0 => ⟨fun _ => cont _ _ _ V4 (fun q => absurd q y0), fun q => absurd q y0⟩, fun y0 => ?_⟩
    have nm := q2 y0
    have k5 := h5 nm.1.1 nm.1
    refine Tot.imp (Tot.mono (by omega) (ts_173 (d := 0) (TS_27 (v := 0) T2) (by decide) y0 (by show (0 : Int32).toInt = 0; decide))) ?_
    rintro v s5 ⟨rfl, T5, f5, n5, q5⟩
    refine ⟨_, rfl, ?_⟩
    have dv : (t1.1 26).toInt.toNat / 4002 = b := TS_dv (s := sf (sf t1 8 y) 7 x) T2 (by decide)
    have p26 : (sf (sf (sf t1 8 y) 7 x) 27 0).1 26 = t1.1 26 := rfl
    have p7 : (sf (sf (sf t1 8 y) 7 x) 27 0).1 7 = x := rfl
    rw [p26] at f5 n5 q5 ⊢
    rw [p7] at q5
    obtain ⟨v1, v2, v3, v4, v5, v6, v7⟩ := V4
    have v3' : (s.1 26).toInt ≤ (t1.1 26).toInt := v3
    have N5 : NF b (cH (s.1 26).toInt.toNat h) s s5 := NF_tr v2 (NF_fr (c := cH (s.1 26).toInt.toNat h) f5 dv (fun p hp => by unfold cH; rw [if_pos hp]; omega)) (fun _ => Nat.le_refl _)
    have r48 : s5.2.1 248 h = t.2.1 248 h := by
      rw [Fr_row f5 (by decide)]
      show t1.2.1 248 h = _
      rw [e2]
    have h42 : (s5.1 42).toInt = (h : Int) := by
      rw [f5.1 42 (by decide)]
      exact v4
    have T5' := TS_mo T5 (show (0 : Int) ≤ _ by decide) (show (0 : Int) ≤ 3 by decide)
    unfold w_183_83
    refine ⟨fun h8 => cont _ _ _ ⟨T5', N5, by omega, h42, by rw [r48]; exact i5, by rw [r48]; exact i6, fun q => absurd q h8⟩ (fun q => absurd q h8), fun h8 => ?_⟩
    obtain ⟨g1, g2⟩ := q5 h8
    rw [e1, r48]
    refine ⟨by omega, fun x1 hx1 => ⟨by omega, by omega, fun x2 hx2 => ⟨by omega, ?_⟩⟩⟩
    rintro s6 rfl
    refine ⟨by omega, fun x4 hx4 => ⟨by omega, ?_⟩⟩
    have r48a : (sa s5 249 x2.toInt.toNat (t1.1 7)).2.1 248 h = t.2.1 248 h := by
      rw [sa_2, if_neg (fun w => by omega)]
      exact r48
    rw [r48a]
    refine ⟨by omega, fun x5 hx5 => ⟨by omega, ?_⟩⟩
    rintro s8 rfl
    have r48b : (sa (sa s5 249 x2.toInt.toNat (t1.1 7)) 250 x5.toInt.toNat (t1.1 26)).2.1 248 h = t.2.1 248 h := by
      rw [sa_2, if_neg (fun w => by omega)]
      exact r48a
    rw [r48b]
    refine ⟨by omega, by omega, fun x7 hx7 => ⟨by omega, ?_⟩⟩
    rintro s9 rfl
    obtain ⟨K, hK⟩ : ∃ K, K = (t.2.1 248 h).toInt.toNat := ⟨_, rfl⟩
    have ex2 : x2.toInt.toNat = 6 * h + K := by omega
    have ex5 : x5.toInt.toNat = 6 * h + K := by omega
    rw [ex2, ex5]
    have e10 : (sa (sa (sa s5 249 (6 * h + K) (t1.1 7)) 250 (6 * h + K) (t1.1 26)) 248 h x7).2.1 248 h = x7 := by
      rw [sa_2, if_pos ⟨rfl, rfl⟩]
    refine cont _ _ _ ⟨TS_sa (TS_sa (TS_sa T5' (by decide)) (by decide)) (by decide), NF_sa (NF_sa (NF_sa N5 ?_) ?_) ?_, by show _ ≤ (s5.1 26).toInt; omega, h42, by rw [e10]; omega, by rw [e10]; omega, fun _ => ?_⟩ (fun _ => by show _ < (s5.1 7).toInt; rw [← e7]; omega)
    · rw [cH_6 (by decide), zl_h6 (by decide)]; omega
    · rw [cH_6 (by decide), zl_h6 (by decide)]; omega
    · rw [cH_r (by decide), zl_hR (by decide)]; omega
    · obtain ⟨w1, own', w2, w3⟩ := v7 y0
      have w1' : (s.1 7).toInt < x.toInt := w1
      refine ⟨by show _ < (s5.1 7).toInt; omega, fun z => if z < (t1.1 26).toInt.toNat then own' z else (250, 6 * h + K), fun z hz => ?_, ?_⟩
      · show (if z < _ then _ else _) = _
        rw [if_pos (by omega)]
        exact w2 z hz
      · obtain ⟨z1, z2, z3, z4, z5, z6, z7⟩ := w3
        have c1 : ∀ p, ¬ p = 249 → ¬ p = 250 → ¬ p = 248 → p ∉ ndB → ∀ i, (sa (sa (sa s5 249 (6 * h + K) (t1.1 7)) 250 (6 * h + K) (t1.1 26)) 248 h x7).2.1 p i = (sf (sf (sf t1 8 y) 7 x) 27 0).2.1 p i := by
          intro p p1 p2 p3 p4 i
          rw [sa_2, if_neg (fun w => p3 w.1), sa_2, if_neg (fun w => p2 w.1), sa_2, if_neg (fun w => p1 w.1), Fr_row f5 p4]
        have nd : ND (t1.1 26).toInt.toNat (sf (sf (sf t1 8 y) 7 x) 27 0) (sa (sa (sa s5 249 (6 * h + K) (t1.1 7)) 250 (6 * h + K) (t1.1 26)) 248 h x7) := ND_sa (ND_sa (ND_sa (ND_fr f5) (by decide)) (by decide)) (by decide)
        have nd5 : ND (s5.1 26).toInt.toNat s5 (sa (sa (sa s5 249 (6 * h + K) (t1.1 7)) 250 (6 * h + K) (t1.1 26)) 248 h x7) := ND_sa (ND_sa (ND_sa ND_rf (by decide)) (by decide)) (by decide)
        have hk : ((sf (sf (sf t1 8 y) 7 x) 27 0).2.1 248 h).toInt.toNat = K := by
          rw [hK]
          show (t1.2.1 248 h).toInt.toNat = _
          rw [e2]
        rw [hk] at z7
        unfold RHa
        rw [e10, c1 244 (by decide) (by decide) (by decide) (by decide), c1 245 (by decide) (by decide) (by decide) (by decide), show x7.toInt.toNat = K + 1 by omega]
        refine ⟨tkN_eq nd.2.1 nd.2.2 z1, z2, z3, SL_eq z4 nd (fun j _ => ⟨c1 246 (by decide) (by decide) (by decide) (by decide) _, c1 247 (by decide) (by decide) (by decide) (by decide) _⟩) (fun z hz => if_pos hz) (by show (t1.1 26).toInt.toNat ≤ (s5.1 26).toInt.toNat; omega), by omega, by omega, ?_⟩
        refine SL_add z7 nd (fun j hj => ⟨?_, ?_⟩) (fun z hz => if_pos hz) (fun z hz => if_neg (fun w => by have : (t1.1 26).toInt.toNat ≤ z := hz; omega)) (by show (t1.1 26).toInt.toNat ≤ (s5.1 26).toInt.toNat; omega) (by show 4002 * b ≤ (t1.1 26).toInt.toNat; omega) ?_ ?_ (isY_nd nd5 (Nat.le_refl _) g2)
        · rw [sa_2, if_neg (fun w => by omega), sa_2, if_neg (fun w => by omega), sa_2, if_neg (fun w => by omega), Fr_row f5 (by decide)]
        · rw [sa_2, if_neg (fun w => by omega), sa_2, if_neg (fun w => by omega), sa_2, if_neg (fun w => by omega), Fr_row f5 (by decide)]
        · rw [sa_2, if_neg (fun w => by omega), sa_2, if_neg (fun w => by omega), sa_2, if_pos ⟨rfl, rfl⟩]
          exact tkN_eq (s := t1) nd.2.1 nd.2.2 nm.2
        · rw [sa_2, if_neg (fun w => by omega), sa_2, if_pos ⟨rfl, rfl⟩]
          show (t1.1 26).toInt = ((t1.1 26).toInt.toNat : Int)
          omega
  have hT0 := TS_c (c' := 0) i1 t8
  rw [e1]
  refine ⟨by omega, fun h6 => go t rfl rfl hI hT0 rfl (fun _ _ => by omega), fun h6 => ?_⟩
  refine Tot.imp (Tot.mono (by omega) (s_166 (d := 0) i1.1 i1.2.1)) ?_
  rintro v s7 ⟨e7, x9, rfl, h9⟩
  have e7 := e7.symm
  subst e7
  refine ⟨x9, rfl, fun h0 => go t rfl rfl hI hT0 rfl (fun _ q => absurd q ((h9.resolve_left (fun w => by omega)).2)), fun h0 => ?_⟩
  refine Tot.imp (Tot.mono (by omega) (ts_163 (d := 0) (w := 5) i1 (by decide) (by decide) t8 (i1.2.1.2.2.2.2 t8))) ?_
  rintro v s8 ⟨rfl, y, rfl, y0, hT⟩
  refine ⟨rfl, go _ rfl rfl ?_ (hT 0 0 (by decide)) rfl (fun q => absurd q y0)⟩
  exact ⟨hT 0 3 (by decide), NF_sf i2 (by decide), i3, i4, i5, i6, fun q => absurd q y0⟩
theorem v40 {own : Nat → Nat × Nat} {e b n W h : Nat} {a1 : Int32} {s t : yS} (hh : 204 * b ≤ h ∧ h < 204 * (b + 1)) (h1 : a1.toInt = (h : Int)) (hs : 4002 * (b : Int) ≤ (s.1 26).toInt) (hI : VI own b n W h s t) : w_183_40 (Tot (e + 26)) a1 t (fun v s' => v = none ∧ HQ own b n W h s s') := by
  unfold w_183_40 w_183_50
  refine Tot.imp (Tot.mono (by omega) (ts_167 (d := 0) (ch := 40) hI.1 (by decide) (by decide))) ?_
  rintro v s3 ⟨rfl, x, y, rfl, T3, hx, q3⟩
  refine ⟨rfl, ?_⟩
  have V := VI_sf (z := t.1 27) hI (TS_mo T3 (by decide) (by decide)) hx (fun q => (q3 q).1.1)
  have e2 : sf (sf (sf t 8 y) 7 x) 27 (t.1 27) = sf (sf t 8 y) 7 x := by
    rw [show t.1 27 = (sf (sf t 8 y) 7 x).1 27 from rfl, sf_id]
  rw [e2] at V
  refine Tot.imp (Tot.mono (by omega) (s_164 (d := 0) V.1.1 V.1.2.1)) ?_
  rintro v s4 ⟨rfl, x5, rfl, -⟩
  exact ⟨x5, rfl, fun _ => v51 hh h1 hs V, fun _ => v51 hh h1 hs V⟩
theorem s_183 {own : Nat → Nat × Nat} {e b n W h : Nat} {δ c : Int} {s : yS} (hT : TS b n W δ c s) (hδ : 0 ≤ δ) (hh : 204 * b ≤ h ∧ h < 204 * (b + 1)) (h42 : (s.1 42).toInt = (h : Int)) (f0 : (s.1 8).toInt = 0) : Tot (e + 27) 183 [.ref 213] s (fun v s' => v = none ∧ HQ own b n W h s s') := by
  have hb := hT.2.2.1
  have hs := hT.2.2.2.2.1
  have r8 := hT.2.1.1
  refine t_183 ?_
  unfold w_183_0
  have eh : (s.1 42).toInt.toNat = h := by omega
  refine ⟨fun _ => ?_, fun q => absurd q (by omega)⟩
  refine Tot.imp (Tot.mono (by omega) (ts_170 (d := 0) (TS_c (c' := 0) hT f0) hδ (by decide))) ?_
  rintro v s1 ⟨rfl, x, y, rfl, T1, hx, q1⟩
  refine ⟨_, rfl, by omega, ?_⟩
  rintro s4 rfl
  refine ⟨by omega, ?_⟩
  rintro s5 rfl
  refine ⟨by omega, ?_⟩
  rintro s6 rfl
  rw [eh]
  obtain ⟨u, hu⟩ : ∃ u, u = sa (sa (sa (sf (sf s 8 y) 7 x) 244 h (s.1 7)) 245 h 0) 248 h 0 := ⟨_, rfl⟩
  rw [← hu]
  have u1 : u.1 = (sf (sf s 8 y) 7 x).1 := by rw [hu]; rfl
  have Tu : TS b n W 2 1 u := by
    rw [hu]
    exact TS_sa (TS_sa (TS_sa (TS_mo T1 (by omega) (by decide)) (by decide)) (by decide)) (by decide)
  have Nu : NF b (cH (s.1 26).toInt.toNat h) s u := by
    rw [hu]
    refine NF_sa (NF_sa (NF_sa (NF_sf (NF_sf NF_rf (by decide)) (by decide)) ?_) ?_) ?_
    · rw [cH_r (by decide), zl_hR (by decide)]; omega
    · rw [cH_r (by decide), zl_hR (by decide)]; omega
    · rw [cH_r (by decide), zl_hR (by decide)]; omega
  have u26 : u.1 26 = s.1 26 := by rw [u1]; rfl
  have u7 : u.1 7 = x := by rw [u1]; rfl
  have u42 : u.1 42 = s.1 42 := by rw [u1]; rfl
  have r44 : u.2.1 244 h = s.1 7 := by
    rw [hu, sa_2, if_neg (fun w => by omega), sa_2, if_neg (fun w => by omega), sa_2, if_pos ⟨rfl, rfl⟩]
  have r45 : u.2.1 245 h = 0 := by
    rw [hu, sa_2, if_neg (fun w => by omega), sa_2, if_pos ⟨rfl, rfl⟩]
  have r48 : u.2.1 248 h = 0 := by
    rw [hu, sa_2, if_pos ⟨rfl, rfl⟩]
  have r15 : u.2.1 215 = s.2.1 215 := NF_row Nu (by decide)
  have r17 : u.2.1 217 = s.2.1 217 := NF_row Nu (by decide)
  have z0 : (0 : Int32).toInt = 0 := by decide
  have nmu : (u.1 8).toInt = 0 → tkN b n u (u.2.1 244 h).toInt := by
    intro q
    rw [u1] at q
    rw [r44]
    exact tkN_eq r15 r17 (q1 q).2
  have Vu : VI own b n W h s u := by
    refine ⟨TS_mo Tu (by decide) (by decide), Nu, by rw [u26]; exact Int.le_refl _, by rw [u42]; exact h42, by rw [r48]; decide, by rw [r48]; decide, fun q => ⟨by rw [u7]; omega, own, fun _ _ => rfl, nmu q, by rw [r45]; decide, by rw [r45]; decide, ?_, by rw [r48]; decide, by rw [r48]; decide, ?_⟩⟩
    · rw [r45, z0]
      exact SL_0
    · rw [r48, z0]
      exact SL_0
  refine Tot.imp (Tot.mono (by omega) (s_164 (d := 0) (c := 91) Tu.1 Tu.2.1)) ?_
  rintro v s7 ⟨e7, x9, rfl, h9⟩
  have e7 := e7.symm
  subst e7
  refine ⟨x9, rfl, fun _ => v40 hh h42 hs Vu, fun h0 => ⟨by omega, fun x10 hx10 => ?_⟩⟩
  have sg := (h9.resolve_right (fun q => h0 q.1)).2
  refine Tot.imp (s_181 (own := own) (d := e) (fr := 6 * h) (a1 := 246) (a2 := 247) (M1 := 2448) (M2 := 2448) Tu (by decide) sg (by omega) (by omega) (by rw [zl_h6 (by decide)]; omega) (by rw [zl_h6 (by decide)]; omega) (by decide) (by decide) (by omega) (by omega) (by decide) (by decide) (by decide)) ?_
  rintro v s11 ⟨k, rfl, k1, k2, k3, k4, k5, k42, k6⟩
  refine ⟨_, rfl, by omega, ?_⟩
  rintro s14 rfl
  rw [u26] at k4 k5 k6
  have cle : ∀ p, cH (s.1 26).toInt.toNat h p ≤ cF (s.1 26).toInt.toNat 246 247 (6 * h) p := by
    intro p
    unfold cF
    split
    · rename_i q
      unfold cH
      rw [if_pos q]
      exact Nat.le_refl _
    · split
      · rename_i q
        rcases q with q | q
        · rw [q, cH_6 (by decide)]
          exact Nat.le_refl _
        · rw [q, cH_6 (by decide)]
          exact Nat.le_refl _
      · rename_i q1 q2
        unfold cH
        rw [if_neg q1]
        split
        · omega
        · split <;> omega
  have c1 : ∀ p ∈ hR, s11.2.1 p h = u.2.1 p h := by
    intro p hp
    refine k4.2.1 p h (fun w => ?_)
    have w1 : cF (s.1 26).toInt.toNat 246 247 (6 * h) p = 20000 := by
      clear w
      have p1 : p ∉ ndB := by revert p; decide
      have p2 : ¬ (p = 246 ∨ p = 247) := by revert p; decide
      unfold cF
      rw [if_neg p1, if_neg p2]
    rw [w1] at w
    omega
  have a1 : ∀ p, ¬ p = 245 → (sa s11 245 h k).2.1 p h = s11.2.1 p h := fun p hp => by rw [sa_2, if_neg (fun w => hp w.1)]
  have s48 : (sa s11 245 h k).2.1 248 h = 0 := by rw [a1 248 (by decide), c1 248 (by decide), r48]
  refine v40 hh h42 hs ⟨TS_sa k3 (by decide), NF_sa (NF_tr Nu k4 cle) (by rw [cH_r (by decide), zl_hR (by decide)]; omega), k5, ?_, ?_, ?_, fun q => ?_⟩
  · show (s11.1 42).toInt = _
    rw [k42, u42]
    exact h42
  · rw [s48]
    decide
  · rw [s48]
    decide
  · obtain ⟨g1, own', g2, g3⟩ := k6 q
    rw [u7] at g1
    have nd : ND (s11.1 26).toInt.toNat s11 (sa s11 245 h k) := ND_sa ND_rf (by decide)
    have s45 : (sa s11 245 h k).2.1 245 h = k := by rw [sa_2, if_pos ⟨rfl, rfl⟩]
    refine ⟨by show _ < (s11.1 7).toInt; omega, own', g2, ?_, by rw [s45]; exact k1, by rw [s45]; exact k2, ?_, by rw [s48]; decide, by rw [s48]; decide, by rw [s48, z0]; exact SL_0⟩
    · rw [a1 244 (by decide), c1 244 (by decide)]
      refine tkN_eq (s := u) (by rw [nd.2.1, NF_row k4 (by decide)]) (by rw [nd.2.2, NF_row k4 (by decide)]) (nmu sg.1)
    · rw [s45]
      refine SL_eq (s := s11) g3 nd (fun j _ => ⟨?_, ?_⟩) (fun _ _ => rfl) (Nat.le_refl _)
      · rw [sa_2, if_neg (fun w => by omega)]
      · rw [sa_2, if_neg (fun w => by omega)]
theorem s_183f {e : Nat} {s : yS} (hf : ¬ (s.1 8).toInt = 0) (h0 : 0 ≤ (s.1 8).toInt) : Tot (e + 1) 183 [.ref 213] s (fun v s' => v = none ∧ s' = s) := by
  refine t_183 ?_
  unfold w_183_0
  exact ⟨fun q => absurd q (by omega), fun _ => ⟨rfl, rfl⟩⟩
