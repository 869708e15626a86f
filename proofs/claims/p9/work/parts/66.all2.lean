/-- readAll's end -/
def AQ (b n W : Nat) (s s' : yS) : Prop := TS b n W 0 3 s' ∧ NF b (c0 b) s s' ∧ ∃ T F H : Nat, RC b T F H s' ∧ ((s'.1 8).toInt = 0 → ∃ own, RAq own b n (s'.1 26).toInt.toNat T F H s' ∧ ES own b n (s'.1 26).toInt.toNat s' 259 b)
theorem RAq_eq {own own' : Nat → Nat × Nat} {b n N N' T F H : Nat} {s t : yS} (h : RAq own b n N T F H s) (nd : ND N s t) (hc : ∀ p, p ∈ tR ∨ p ∈ t6 ∨ p ∈ hR ∨ p ∈ h6 ∨ p ∈ fR ∨ p = 262 → t.2.1 p = s.2.1 p) (ho : ∀ x, x < N → own' x = own x) (hN : N ≤ N') : RAq own' b n N' T F H t := by
  obtain ⟨a1, a2, a3, a4, a5⟩ := h
  refine ⟨fun d hd => RT_eq (a1 d hd) nd (fun p hp => by rw [hc p (Or.inl hp)]) (fun p hp _ _ => by rw [hc p (Or.inr (Or.inl hp))]) ho hN (Nat.le_refl _), fun h hh => RH_eq (a2 h hh) nd (fun p hp => by rw [hc p (Or.inr (Or.inr (Or.inl hp)))]) (fun p hp _ _ => by rw [hc p (Or.inr (Or.inr (Or.inr (Or.inl hp))))]) ho hN, fun f hf => RF_eq (a3 f hf) nd (fun p hp => by rw [hc p (Or.inr (Or.inr (Or.inr (Or.inr (Or.inl hp)))))]) ho hN (Nat.le_refl _), ?_, ?_⟩
  · unfold DC
    rw [hc 262 (Or.inr (Or.inr (Or.inr (Or.inr (Or.inr rfl)))))]
    exact a4
  · unfold HO
    rw [hc 262 (Or.inr (Or.inr (Or.inr (Or.inr (Or.inr rfl))))), hc 242 (Or.inl (by decide)), hc 243 (Or.inl (by decide)), hc 257 (Or.inr (Or.inr (Or.inr (Or.inr (Or.inl (by decide))))))]
    exact a5
theorem a44 {e b n W T F H : Nat} {t1 t2 : Int32} {s t : yS} (h1 : t1.toInt = (b : Int)) (hT : TS b n W 0 3 t) (hN : NF b (c0 b) s t) (hC : RC b T F H t) (hq : (t.1 8).toInt = 0 → ∃ own, RAq own b n (t.1 26).toInt.toNat T F H t ∧ ∃ l h : Nat, 0 ≤ t2.toInt ∧ 4002 * b ≤ l ∧ h ≤ (t.1 26).toInt.toNat ∧ isE b n t 11 l h t2.toInt.toNat ∧ ∀ x, l ≤ x → x < h → own x = (259, b)) : w_179_44 (Tot (e + 2)) t1 t2 t (fun v s' => v = none ∧ AQ b n W s s') := by
  have hb := hT.2.2.1
  have e1 : t1.toInt.toNat = b := by omega
  unfold w_179_44 w_179_62
  refine ⟨by omega, ?_⟩
  rintro s1 rfl
  rw [e1]
  refine Tot.imp (Tot.mono (by omega) (ts_167 (d := 0) (ch := 59) (TS_sa (p := 259) (i := b) (v := t2) hT (by decide)) (by decide) (by decide))) ?_
  rintro v s2 ⟨rfl, x, y, rfl, T2, hx, q2⟩
  refine ⟨rfl, ?_⟩
  have T2' := TS_mo T2 (show (0 : Int) ≤ 0 + 2 by decide) (Int.le_refl _)
  have N2 : NF b (c0 b) s (sf (sf (sa t 259 b t2) 8 y) 7 x) := NF_sf (NF_sf (NF_sa hN (by unfold c0; rw [show zl 259 = 1 by decide]; omega)) (by decide)) (by decide)
  have cc : ∀ p, ¬ p = 259 → (sf (sf (sa t 259 b t2) 8 y) 7 x).2.1 p = t.2.1 p := by
    intro p hp
    funext i
    show (sa t 259 b t2).2.1 p i = _
    rw [sa_2, if_neg (fun w => hp w.1)]
  have C2 : RC b T F H (sf (sf (sa t 259 b t2) 8 y) 7 x) := by
    obtain ⟨c1, c2, c3, c4, c5, c6, c7⟩ := hC
    exact ⟨c1, c2, c3, by rw [cc 233 (by decide)]; exact c4, by rw [cc 252 (by decide)]; exact c5, by rw [cc 263 (by decide)]; exact c6, c7⟩
  refine ⟨fun y0 => ⟨rfl, T2', N2, T, F, H, C2, fun q => absurd q y0⟩, fun y0 => ?_⟩
  have t8 : (t.1 8).toInt = 0 := (q2 y0).1.1
  have good : ∃ own, RAq own b n (t.1 26).toInt.toNat T F H (sf (sf (sa t 259 b t2) 8 y) 7 x) ∧ ES own b n (t.1 26).toInt.toNat (sf (sf (sa t 259 b t2) 8 y) 7 x) 259 b := by
    obtain ⟨own, g1, l, h, g2, g3, g4, g5, g6⟩ := hq t8
    have nd : ND (t.1 26).toInt.toNat t (sf (sf (sa t 259 b t2) 8 y) 7 x) := ND_sf (ND_sf (ND_sa ND_rf (by decide)))
    refine ⟨own, RAq_eq g1 nd (fun p hp => cc p (fun e => ?_)) (fun _ _ => rfl) (Nat.le_refl _), t2.toInt.toNat, l, h, ?_, g3, g4, isE_eq nd.2.1 nd.2.2 11 l h _ (fun x x1 x2 => ?_) g5, g6⟩
    · rw [e] at hp
      revert hp
      decide
    · show ((sa t 259 b t2).2.1 259 b).toInt = _
      rw [sa_2, if_pos ⟨rfl, rfl⟩]
      omega
    · have := ND_SR nd (x := x) (by omega)
      exact ⟨this.1, fun _ => this.2⟩
  have hr := T2'.2.1.2.2.2.2 y0
  have hn4 := hT.1.2.1
  refine ⟨by omega, fun _ => ⟨rfl, T2', N2, T, F, H, C2, fun _ => good⟩, fun _ => ?_⟩
  refine Tot.imp (Tot.mono (by omega) (ts_163 (d := 0) (w := 1) T2' (by decide) (by decide) y0 hr)) ?_
  rintro v s8 ⟨rfl, z, rfl, z0, hTT⟩
  exact ⟨rfl, rfl, hTT 0 3 (by decide), NF_sf N2 (by decide), T, F, H, C2, fun q => absurd q z0⟩
theorem a27 {e b n W : Nat} {s t : yS} (hI : AI b n W s t) : w_179_27 (Tot (e + 37)) t (fun v s' => v = none ∧ AQ b n W s s') := by
  obtain ⟨hT, hN, T, F, H, hC, hq⟩ := hI
  have hb := hT.2.2.1
  unfold w_179_27
  refine Tot.imp (Tot.mono (by omega) (ts_169 (d := 0) (ch := 5) hT (by decide) (by decide))) ?_
  rintro v s1 ⟨rfl, x, y, rfl, T1, hx, q1⟩
  refine ⟨rfl, ?_⟩
  rintro s3 rfl
  have N3 : NF b (c0 b) s (sf (sf (sf t 8 y) 7 x) 27 0) := NF_sf (NF_sf (NF_sf hN (by decide)) (by decide)) (by decide)
  refine ⟨fun y0 => a44 (e := e + 35) (T := T) (F := F) (H := H) T1.2.2.2.1 (TS_mo (TS_27 T1) (by decide) (by decide)) N3 hC (fun q => absurd q y0), fun y0 => ?_⟩
  have t8 : (t.1 8).toInt = 0 := (q1 y0).1
  refine Tot.imp (ts_175 (d := e) (TS_27 (v := 0) T1) (by decide) y0 (by show (0 : Int32).toInt = 0; decide)) ?_
  rintro v s11 ⟨ee, rfl, T11, f11, n11, q11⟩
  have p26 : (sf (sf (sf t 8 y) 7 x) 27 0).1 26 = t.1 26 := rfl
  rw [p26] at f11 n11 q11
  refine ⟨_, rfl, ?_⟩
  have dv : (t.1 26).toInt.toNat / 4002 = b := TS_dv hT (by decide)
  have tN := hT.2.2.2.2.1
  have rr : ∀ p, p ∉ ndB → s11.2.1 p = t.2.1 p := fun p hp => by
    have := Fr_row f11 hp
    exact this
  refine a44 (e := e + 35) (T := T) (F := F) (H := H) T1.2.2.2.1 (TS_mo T11 (by decide) (by decide)) (NF_tr N3 (NF_fr (c := c0 b) f11 dv (fun p hp => by unfold c0 zl; rw [if_pos hp]; omega)) (fun _ => Nat.le_refl _)) ?_ (fun q => ?_)
  · obtain ⟨c1, c2, c3, c4, c5, c6, c7⟩ := hC
    exact ⟨c1, c2, c3, by rw [rr 233 (by decide)]; exact c4, by rw [rr 252 (by decide)]; exact c5, by rw [rr 263 (by decide)]; exact c6, by rw [f11.1 42 (by decide)]; exact c7⟩
  · obtain ⟨m1, m2, m3⟩ := q11 q
    obtain ⟨own, g1⟩ := hq t8
    have nd : ND (t.1 26).toInt.toNat t s11 := ND_tr (s' := sf (sf (sf t 8 y) 7 x) 27 0) ⟨fun _ _ _ _ => rfl, rfl, rfl⟩ (ND_fr f11) (Nat.le_refl _)
    refine ⟨fun z => if z < (t.1 26).toInt.toNat then own z else (259, b), RAq_eq g1 nd (fun p hp => rr p ?_) (fun z hz => if_pos hz) (by omega), (t.1 26).toInt.toNat, (s11.1 26).toInt.toNat, m2, by omega, Nat.le_refl _, m3, fun z z1 _ => if_neg (by omega)⟩
    clear rr
    rcases hp with hp | hp | hp | hp | hp | hp
    · revert p; decide
    · revert p; decide
    · revert p; decide
    · revert p; decide
    · revert p; decide
    · rw [hp]; decide
theorem s_179 {e b n W : Nat} {s : yS} (hI : AI b n W s s) : Tot (e + 39) 179 [.ref 213] s (fun v s' => v = none ∧ AQ b n W s s') := by
  refine t_179 ?_
  refine ⟨fun u => AI b n W s u, fun s' => if (s'.1 8).toInt = 0 then (14000 - (s'.1 7).toInt).toNat + 1 else 0, hI, ?_⟩
  clear hI
  intro t hI
  obtain ⟨hT, hN, T, F, H, hC, hq⟩ := id hI
  have hb := hT.2.2.1
  have mu : ∀ s' : yS, (t.1 8).toInt = 0 → ((s'.1 8).toInt = 0 → (t.1 7).toInt < (s'.1 7).toInt) → (if (s'.1 8).toInt = 0 then (14000 - (s'.1 7).toInt).toNat + 1 else 0) < (if (t.1 8).toInt = 0 then (14000 - (t.1 7).toInt).toNat + 1 else 0) := by
    intro s' h1 h2
    have := hT.2.1.2.2.2.1
    rw [if_pos h1]
    split
    · rename_i h3
      have := h2 h3
      omega
    · omega
  have fin : w_179_27 (Tot (e + 38)) t (fun v s' => v = none ∧ AQ b n W s s') := a27 (e := e + 1) hI
  unfold w_179_0
  refine ⟨fun _ => fin, fun t8 => ?_⟩
  obtain ⟨own, hA⟩ := hq t8
  obtain ⟨c1, c2, c3, c4, c5, c6, c7⟩ := id hC
  have tN := hT.2.2.2.2.1
  refine Tot.imp (Tot.mono (by omega) (s_165 (d := 0) (c := 5) hT.1 hT.2.1)) ?_
  rintro v s1 ⟨e1, x3, rfl, -⟩
  have e1 := e1.symm
  subst e1
  refine ⟨x3, rfl, fun _ => fin, fun _ => ?_⟩
  refine Tot.imp (Tot.mono (by omega) (s_165 (d := 0) (c := 0) hT.1 hT.2.1)) ?_
  rintro v s1 ⟨e1, x6, rfl, h6⟩
  have e1 := e1.symm
  subst e1
  have bad : ∀ y : Int32, ¬ y.toInt = 0 → TS b n W 0 3 (sf t 8 y) → AI b n W s (sf t 8 y) ∧ (if ((sf t 8 y).1 8).toInt = 0 then (14000 - ((sf t 8 y).1 7).toInt).toNat + 1 else 0) < (if (t.1 8).toInt = 0 then (14000 - (t.1 7).toInt).toNat + 1 else 0) := fun y y0 hy => ⟨⟨hy, NF_sf hN (by decide), T, F, H, hC, fun q => absurd q y0⟩, mu _ t8 (fun q => absurd q y0)⟩
  refine ⟨x6, rfl, fun _ => ?_, fun x60 => ?_⟩
  · refine Tot.imp (Tot.mono (by omega) (s_165 (d := 0) (c := 3) hT.1 hT.2.1)) ?_
    rintro v s1 ⟨e1, x9, rfl, h9⟩
    have e1 := e1.symm
    subst e1
    refine ⟨x9, rfl, fun _ => ?_, fun x90 => ?_⟩
    · refine Tot.imp (Tot.mono (by omega) (ts_163 (d := 0) (w := 1) hT (by decide) (by decide) t8 (hT.2.1.2.2.2.2 t8))) ?_
      rintro v s8 ⟨rfl, y, rfl, y0, hTT⟩
      exact ⟨rfl, bad y y0 (hTT 0 3 (by decide))⟩
    · have hw := (h9.resolve_right (fun q => x90 q.1)).2.2.1
      by_cases hF : F = 60
      · refine Tot.imp (Tot.mono (by omega) (s_184x (e := 0) hT (by decide) t8 (by rw [c5, hF]; rfl))) ?_
        rintro v s8 ⟨rfl, y, rfl, y0, hTT⟩
        exact ⟨rfl, bad y y0 hTT⟩
      · refine Tot.imp (s_184 (own := own) (e := e) (F := F) (D := T + F) (Hh := 204 * b + H) hT (by decide) t8 hw (by omega) (by omega) (by omega) (by omega) c5 (by omega)) ?_
        rintro v s' ⟨rfl, K, k0, k1, k2, k3, k4, k5, k6, k7⟩
        refine ⟨rfl, ⟨k1, NF_tr hN k2 (c0_cU hb (by omega) (by omega)), T, F + 1, H + K, ⟨c1, by omega, by omega, ?_, by omega, by omega, by omega⟩, fun q => ?_⟩, mu _ t8 (fun q => (k7 q).2.1)⟩
        · rw [NF_20 k2 hb (by unfold cU; rw [if_neg (by decide), if_neg (by decide), if_neg (by decide), if_neg (by decide), if_neg (by decide), if_neg (by decide)])]
          exact c4
        · obtain ⟨m1, m2, m3, m4, m5, own', m6, m7, m8⟩ := k7 q
          subst m1
          exact ⟨own', RA_F (W := W) c1 hb rfl hA k2 (by omega) m3 m4 m5 m6 m7 m8⟩
  · have hw := (h6.resolve_right (fun q => x60 q.1)).2.2.1
    by_cases hF : T = 24
    · refine Tot.imp (Tot.mono (by omega) (s_180x (e := 0) hT (by decide) t8 (by rw [c4, hF]; rfl))) ?_
      rintro v s8 ⟨rfl, y, rfl, y0, hTT⟩
      exact ⟨rfl, bad y y0 hTT⟩
    · refine Tot.imp (Tot.mono (by omega) (s_180 (own := own) (e := e) (T := T) (D := T + F) (Hh := 204 * b + H) hT (by decide) t8 hw (by omega) (by omega) (by omega) (by omega) c4 (by omega))) ?_
      rintro v s' ⟨rfl, K, k0, k1, k2, k3, k4, k5, k6, k7⟩
      refine ⟨rfl, ⟨k1, NF_tr hN k2 (c0_cT hb (by omega) (by omega)), T + 1, F, H + K, ⟨by omega, c2, by omega, by omega, ?_, by omega, by omega⟩, fun q => ?_⟩, mu _ t8 (fun q => (k7 q).1)⟩
      · rw [NF_20 k2 hb (by unfold cT; rw [if_neg (by decide), if_neg (by decide), if_neg (by decide), if_neg (by decide), if_neg (by decide), if_neg (by decide), if_neg (by decide)])]
        exact c5
      · obtain ⟨m1, m2, m3, m4, m5, m6, m7, own', m8, m9, m10⟩ := k7 q
        exact ⟨own', RA_T (W := W) (by omega) hb rfl hA k2 (by omega) m2 m3 m4 m5 m6 m7 k0 m8 m9 m10⟩
