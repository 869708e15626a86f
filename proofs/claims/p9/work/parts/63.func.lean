/-! ===== readFunc ===== -/
def cU (N f Hh Dd b : Nat) (p : Nat) : Nat := if p ∈ ndB then N else if p ∈ fR then f else if p ∈ hR then Hh else if p ∈ h6 then 6 * Hh else if p = 262 then Dd else if p = 263 ∨ p = 252 then b else 20000
section CU
variable {N f Hh Dd b p : Nat}
theorem cU_n (hp : p ∈ ndB) : cU N f Hh Dd b p = N := by unfold cU; rw [if_pos hp]
theorem cU_f (hp : p ∈ fR) : cU N f Hh Dd b p = f := by
  have h1 : p ∉ ndB := by revert p; decide
  unfold cU; rw [if_neg h1, if_pos hp]
theorem cU_h (hp : p ∈ hR) : cU N f Hh Dd b p = Hh := by
  have h1 : p ∉ ndB := by revert p; decide
  have h2 : p ∉ fR := by revert p; decide
  unfold cU; rw [if_neg h1, if_neg h2, if_pos hp]
theorem cU_h6 (hp : p ∈ h6) : cU N f Hh Dd b p = 6 * Hh := by
  have h1 : p ∉ ndB := by revert p; decide
  have h2 : p ∉ fR := by revert p; decide
  have h3 : p ∉ hR := by revert p; decide
  unfold cU; rw [if_neg h1, if_neg h2, if_neg h3, if_pos hp]
theorem cU_le (h1 : N ≤ 20000) (h2 : f ≤ 20000) (h3 : 6 * Hh ≤ 20000) (h4 : Dd ≤ 20000) (h5 : b ≤ 2) : cU N f Hh Dd b p ≤ 20000 := by
  unfold cU
  repeat' split
  all_goals omega
end CU
theorem zl_fR {p : Nat} (hp : p ∈ fR) : zl p = 60 := by revert p; decide
/-- a func's names -/
def RFa (b n : Nat) (s : yS) (f : Nat) : Prop := tkN b n s (s.2.1 253 f).toInt ∧ tkN b n s (s.2.1 254 f).toInt ∧ 0 ≤ (s.2.1 255 f).toInt ∧ (s.2.1 255 f).toInt ≤ 6 ∧ ∀ k : Nat, (k : Int) < (s.2.1 255 f).toInt → tkN b n s ((s.2.1 256 f).toInt + 2 * k)
theorem RFa_eq {b n f : Nat} {s t : yS} (h : RFa b n s f) (t5 : t.2.1 215 = s.2.1 215) (t7 : t.2.1 217 = s.2.1 217) (hc : ∀ p ∈ [253, 254, 255, 256], t.2.1 p f = s.2.1 p f) : RFa b n t f := by
  obtain ⟨h1, h2, h3, h4, h5⟩ := h
  unfold RFa
  rw [hc 253 (by decide), hc 254 (by decide), hc 255 (by decide), hc 256 (by decide)]
  exact ⟨tkN_eq t5 t7 h1, tkN_eq t5 t7 h2, h3, h4, fun k hk => tkN_eq t5 t7 (h5 k hk)⟩
/-- readFunc's end -/
def FQ (own : Nat → Nat × Nat) (b n W F D Hh : Nat) (s s' : yS) : Prop := ∃ K : Nat, K ≤ 1 ∧ TS b n W 0 3 s' ∧ NF b (cU (s.1 26).toInt.toNat (60 * b + F) Hh (84 * b + D) b) s s' ∧ (s.1 26).toInt ≤ (s'.1 26).toInt ∧ (s'.1 42).toInt = (Hh : Int) + K ∧ (s'.2.1 252 b).toInt = (F : Int) + 1 ∧ (s'.2.1 263 b).toInt = (D : Int) + 1 ∧
  ((s'.1 8).toInt = 0 → K = 1 ∧ (s.1 7).toInt < (s'.1 7).toInt ∧ (s'.2.1 262 (84 * b + D)).toInt = 100 + (F : Int) ∧ (s'.2.1 257 (60 * b + F)).toInt = (Hh : Int) ∧ RFa b n s' (60 * b + F) ∧ ∃ own' : Nat → Nat × Nat, (∀ x, x < (s.1 26).toInt.toNat → own' x = own x) ∧ RH own' b n (s'.1 26).toInt.toNat s' Hh ∧ ES own' b n (s'.1 26).toInt.toNat s' 258 (60 * b + F))
theorem f133 {own : Nat → Nat × Nat} {e b n W F D Hh K : Nat} {a1 t2 : Int32} {s t : yS} (hF : F < 60) (hD : D < 84) (h1 : a1.toInt = 60 * (b : Int) + F) (r52 : (s.2.1 252 b).toInt = (F : Int)) (r63 : (s.2.1 263 b).toInt = (D : Int)) (hK : K ≤ 1) (hT : TS b n W 0 3 t) (hN : NF b (cU (s.1 26).toInt.toNat (60 * b + F) Hh (84 * b + D) b) s t) (h26 : (s.1 26).toInt ≤ (t.1 26).toInt) (h42 : (t.1 42).toInt = (Hh : Int) + K) (t52 : t.2.1 252 = s.2.1 252) (t63 : t.2.1 263 = s.2.1 263)
    (hq : (t.1 8).toInt = 0 → K = 1 ∧ (s.1 7).toInt < (t.1 7).toInt ∧ (t.2.1 257 (60 * b + F)).toInt = (Hh : Int) ∧ RFa b n t (60 * b + F) ∧ ∃ own' : Nat → Nat × Nat, (∀ x, x < (s.1 26).toInt.toNat → own' x = own x) ∧ RH own' b n (t.1 26).toInt.toNat t Hh ∧ ∃ l h : Nat, 0 ≤ t2.toInt ∧ 4002 * b ≤ l ∧ h ≤ (t.1 26).toInt.toNat ∧ isE b n t 11 l h t2.toInt.toNat ∧ ∀ x, l ≤ x → x < h → own' x = (258, 60 * b + F)) : w_184_133 (Tot (e + 2)) a1 a1 t2 t (fun v s' => v = none ∧ FQ own b n W F D Hh s s') := by
  have hb := hT.2.2.1
  have e1 : a1.toInt.toNat = 60 * b + F := by omega
  unfold w_184_133
  refine ⟨by omega, ?_⟩
  rintro s1 rfl
  rw [e1]
  refine Tot.imp (Tot.mono (by omega) (ts_167 (d := 0) (ch := 125) (TS_sa (p := 258) (i := 60 * b + F) (v := t2) hT (by decide)) (by decide) (by decide))) ?_
  rintro v s2 ⟨rfl, x, y, rfl, T2, hx, q2⟩
  refine ⟨rfl, ?_⟩
  obtain ⟨u, hu⟩ : ∃ u, u = sf (sf (sa t 258 (60 * b + F) t2) 8 y) 7 x := ⟨_, rfl⟩
  rw [← hu] at T2 q2 ⊢
  have ur : ∀ p, ¬ p = 258 → u.2.1 p = t.2.1 p := by
    intro p hp
    funext i
    rw [hu]
    show (sa t 258 (60 * b + F) t2).2.1 p i = _
    rw [sa_2, if_neg (fun w => hp w.1)]
  have u58 : u.2.1 258 (60 * b + F) = t2 := by
    rw [hu]
    show (sa t 258 (60 * b + F) t2).2.1 258 _ = _
    rw [sa_2, if_pos ⟨rfl, rfl⟩]
  have u26 : u.1 26 = t.1 26 := by rw [hu]; rfl
  have u42 : u.1 42 = t.1 42 := by rw [hu]; rfl
  have u7 : u.1 7 = x := by rw [hu]; rfl
  have uN : NF b (cU (s.1 26).toInt.toNat (60 * b + F) Hh (84 * b + D) b) s u := by
    rw [hu]
    exact NF_sf (NF_sf (NF_sa hN (by rw [cU_f (by decide), zl_fR (by decide)]; omega)) (by decide)) (by decide)
  have uD : ND (t.1 26).toInt.toNat t u := by
    rw [hu]
    exact ND_sf (ND_sf (ND_sa ND_rf (by decide)))
  have hn : (u.1 30).toInt = (b : Int) := T2.2.2.2.1
  have en : (u.1 30).toInt.toNat = b := by omega
  rw [en]
  have v52 : u.2.1 252 b = s.2.1 252 b := by rw [ur 252 (by decide), t52]
  have v63 : u.2.1 263 b = s.2.1 263 b := by rw [ur 263 (by decide), t63]
  rw [v52, v63]
  refine ⟨by omega, fun x3 hx3 => ⟨by omega, by omega, fun x5 hx5 => ⟨by omega, by omega, fun x6 hx6 => ⟨by omega, ?_⟩⟩⟩⟩
  rintro s7 rfl
  have p30 : ∀ (w : yS) (p i : Nat) (v : Int32), (sa w p i v).1 30 = w.1 30 := fun _ _ _ _ => rfl
  simp only [p30, en]
  have ex : x5.toInt.toNat = 84 * b + D := by omega
  rw [ex]
  have w63 : (sa u 262 (84 * b + D) x6).2.1 263 b = s.2.1 263 b := by
    rw [sa_2, if_neg (fun w => by omega)]
    exact v63
  rw [w63]
  refine ⟨by omega, by omega, fun x8 hx8 => ⟨by omega, ?_⟩⟩
  rintro s9 rfl
  have w52 : (sa (sa u 262 (84 * b + D) x6) 263 b x8).2.1 252 b = s.2.1 252 b := by
    rw [sa_2, if_neg (fun w => by omega), sa_2, if_neg (fun w => by omega)]
    exact v52
  simp only [p30, en]
  rw [w52]
  refine ⟨by omega, by omega, fun x10 hx10 => ⟨by omega, ?_⟩⟩
  rintro s11 rfl
  obtain ⟨z, hz⟩ : ∃ z, z = sa (sa (sa u 262 (84 * b + D) x6) 263 b x8) 252 b x10 := ⟨_, rfl⟩
  rw [← hz]
  have z1 : z.1 = u.1 := by rw [hz]; rfl
  have zr : ∀ p, ¬ p = 262 → ¬ p = 263 → ¬ p = 252 → z.2.1 p = u.2.1 p := by
    intro p p1 p2 p3
    funext i
    rw [hz, sa_2, if_neg (fun w => p3 w.1), sa_2, if_neg (fun w => p2 w.1), sa_2, if_neg (fun w => p1 w.1)]
  have nd : ND (u.1 26).toInt.toNat u z := by
    rw [hz]
    exact ND_sa (ND_sa (ND_sa ND_rf (by decide)) (by decide)) (by decide)
  have Tz : TS b n W 0 3 z := by
    rw [hz]
    exact TS_sa (TS_sa (TS_sa (TS_mo T2 (by decide) (by decide)) (by decide)) (by decide)) (by decide)
  have Nz : NF b (cU (s.1 26).toInt.toNat (60 * b + F) Hh (84 * b + D) b) s z := by
    rw [hz]
    refine NF_sa (NF_sa (NF_sa uN ?_) ?_) ?_
    · rw [show cU (s.1 26).toInt.toNat (60 * b + F) Hh (84 * b + D) b 262 = 84 * b + D from by unfold cU; rw [if_neg (by decide), if_neg (by decide), if_neg (by decide), if_neg (by decide), if_pos rfl], show zl 262 = 84 by decide]
      omega
    · rw [show cU (s.1 26).toInt.toNat (60 * b + F) Hh (84 * b + D) b 263 = b from by unfold cU; rw [if_neg (by decide), if_neg (by decide), if_neg (by decide), if_neg (by decide), if_neg (by decide), if_pos (Or.inl rfl)], show zl 263 = 1 by decide]
      omega
    · rw [show cU (s.1 26).toInt.toNat (60 * b + F) Hh (84 * b + D) b 252 = b from by unfold cU; rw [if_neg (by decide), if_neg (by decide), if_neg (by decide), if_neg (by decide), if_neg (by decide), if_pos (Or.inr rfl)], show zl 252 = 1 by decide]
      omega
  refine ⟨trivial, K, hK, Tz, Nz, by rw [z1, u26]; exact h26, by rw [z1, u42]; exact h42, ?_, ?_, fun q => ?_⟩
  · rw [hz, sa_2, if_pos ⟨rfl, rfl⟩]
    omega
  · rw [hz, sa_2, if_neg (fun w => by omega), sa_2, if_pos ⟨rfl, rfl⟩]
    omega
  · rw [z1] at q ⊢
    have t8 : (t.1 8).toInt = 0 := (q2 q).1.1
    obtain ⟨g1, g2, g3, g4, own', g5, g6, l, h, g7, g8, g9, g10, g11⟩ := hq t8
    have ndz : ND (t.1 26).toInt.toNat t z := ND_tr uD nd (by rw [u26]; exact Nat.le_refl _)
    have rz : ∀ p, ¬ p = 262 → ¬ p = 263 → ¬ p = 252 → ¬ p = 258 → z.2.1 p = t.2.1 p := fun p p1 p2 p3 p4 => (zr p p1 p2 p3).trans (ur p p4)
    refine ⟨g1, by rw [u7]; have : (t.1 7).toInt ≤ x.toInt := hx; omega, ?_, ?_, RFa_eq g4 ndz.2.1 ndz.2.2 (fun p hp => ?_), own', g5, RH_eq g6 ndz (fun p hp => ?_) (fun p hp j _ => ?_) (fun _ _ => rfl) (by rw [u26]; exact Nat.le_refl _), t2.toInt.toNat, l, h, ?_, g8, by rw [u26]; exact g9, isE_eq ndz.2.1 ndz.2.2 11 l h _ (fun x x1 x2 => ?_) g10, g11⟩
    · rw [hz, sa_2, if_neg (fun w => by omega), sa_2, if_neg (fun w => by omega), sa_2, if_pos ⟨rfl, rfl⟩]
      omega
    · rw [rz 257 (by decide) (by decide) (by decide) (by decide)]
      exact g3
    · have : ¬ p = 262 ∧ ¬ p = 263 ∧ ¬ p = 252 ∧ ¬ p = 258 := by clear zr ur rz; revert p; decide
      rw [rz p this.1 this.2.1 this.2.2.1 this.2.2.2]
    · have : ¬ p = 262 ∧ ¬ p = 263 ∧ ¬ p = 252 ∧ ¬ p = 258 := by clear zr ur rz; revert p; decide
      rw [rz p this.1 this.2.1 this.2.2.1 this.2.2.2]
    · have : ¬ p = 262 ∧ ¬ p = 263 ∧ ¬ p = 252 ∧ ¬ p = 258 := by clear zr ur rz; revert p; decide
      rw [rz p this.1 this.2.1 this.2.2.1 this.2.2.2]
    · rw [zr 258 (by decide) (by decide) (by decide), u58]
      omega
    · have := ND_SR ndz (x := x) (by omega)
      exact ⟨this.1, fun _ => this.2⟩
/-- a func ahead of its head -/
def XI (b n W F Hh D : Nat) (s t : yS) : Prop := TS b n W 0 3 t ∧ NF b (cU (s.1 26).toInt.toNat (60 * b + F) Hh (84 * b + D) b) s t ∧ t.1 26 = s.1 26 ∧ t.1 42 = s.1 42 ∧ (∀ p, p ∉ fR → t.2.1 p = s.2.1 p)
theorem XI_sf {b n W F Hh D : Nat} {s t : yS} {x y : Int32} (h : XI b n W F Hh D s t) (hT : TS b n W 0 3 (sf (sf t 8 y) 7 x)) : XI b n W F Hh D s (sf (sf t 8 y) 7 x) := ⟨hT, NF_sf (NF_sf h.2.1 (by decide)) (by decide), h.2.2.1, h.2.2.2.1, h.2.2.2.2⟩
theorem XI_sa {b n W F Hh D p : Nat} {s t : yS} {v : Int32} (h : XI b n W F Hh D s t) (hp : p ∈ fR) (hb : b < 2) (hF : F < 60) : XI b n W F Hh D s (sa t p (60 * b + F) v) := ⟨TS_sa h.1 (by revert p; decide), NF_sa h.2.1 (by rw [cU_f hp, zl_fR hp]; omega), h.2.2.1, h.2.2.2.1, fun q hq => by
  rw [← h.2.2.2.2 q hq]
  funext i
  rw [sa_2, if_neg (fun e => hq (by rw [e.1]; exact hp))]⟩
theorem f103 {own : Nat → Nat × Nat} {e b n W F D Hh : Nat} {a1 : Int32} {s t : yS} (hF : F < 60) (hD : D < 84) (hH : 204 * b ≤ Hh ∧ Hh < 204 * (b + 1)) (h1 : a1.toInt = 60 * (b : Int) + F) (r52 : (s.2.1 252 b).toInt = (F : Int)) (r63 : (s.2.1 263 b).toInt = (D : Int)) (h42 : (s.1 42).toInt = (Hh : Int)) (hs : 4002 * (b : Int) ≤ (s.1 26).toInt) (hX : XI b n W F Hh D s t) (hq : (t.1 8).toInt = 0 → (s.1 7).toInt < (t.1 7).toInt ∧ RFa b n t (60 * b + F)) : w_184_103 (Tot (e + 37)) a1 t (fun v s' => v = none ∧ FQ own b n W F D Hh s s') := by
  have hb := hX.1.2.2.1
  have e1 : a1.toInt.toNat = 60 * b + F := by omega
  have hN20 := TS_N hX.1 (by decide)
  rw [hX.2.2.1] at hN20
  unfold w_184_103
  refine Tot.imp (Tot.mono (by omega) (ts_167 (d := 0) (ch := 41) hX.1 (by decide) (by decide))) ?_
  rintro v s1 ⟨rfl, x, y, rfl, T1, hx, q1⟩
  refine ⟨rfl, by omega, ?_⟩
  rintro s3 rfl
  rw [e1]
  have X1 := XI_sf hX (TS_mo T1 (by decide) (by decide))
  obtain ⟨u, hu⟩ : ∃ u, u = sa (sf (sf t 8 y) 7 x) 257 (60 * b + F) ((sf (sf t 8 y) 7 x).1 42) := ⟨_, rfl⟩
  have Xu : XI b n W F Hh D s u := by rw [hu]; exact XI_sa X1 (by decide) hb hF
  rw [← hu]
  have u57 : u.2.1 257 (60 * b + F) = s.1 42 := by
    rw [hu, sa_2, if_pos ⟨rfl, rfl⟩]
    exact X1.2.2.2.1
  have uq : (u.1 8).toInt = 0 → (s.1 7).toInt < (u.1 7).toInt ∧ RFa b n u (60 * b + F) := by
    intro q
    have q : y.toInt = 0 := by rw [hu] at q; exact q
    have t8 := (q1 q).1.1
    have := hq t8
    refine ⟨by rw [hu]; show _ < x.toInt; omega, RFa_eq this.2 (by rw [hu]; funext j; rw [sa_2, if_neg (fun w => by omega)]; rfl) (by rw [hu]; funext j; rw [sa_2, if_neg (fun w => by omega)]; rfl) (fun p hp => ?_)⟩
    rw [hu, sa_2, if_neg (fun w => by rw [w.1] at hp; revert hp; decide)]
    rfl
  clear T1 q1 hu X1
  -- behind the head
  have last : ∀ (w : yS) (K : Nat), K ≤ 1 → TS b n W 0 3 w → NF b (cU (s.1 26).toInt.toNat (60 * b + F) Hh (84 * b + D) b) s w → (s.1 26).toInt ≤ (w.1 26).toInt → (w.1 42).toInt = (Hh : Int) + K → w.2.1 252 = s.2.1 252 → w.2.1 263 = s.2.1 263 → ((w.1 8).toInt = 0 → K = 1 ∧ (s.1 7).toInt < (w.1 7).toInt ∧ (w.2.1 257 (60 * b + F)).toInt = (Hh : Int) ∧ RFa b n w (60 * b + F) ∧ ∃ own' : Nat → Nat × Nat, (∀ x, x < (s.1 26).toInt.toNat → own' x = own x) ∧ RH own' b n (w.1 26).toInt.toNat w Hh) → Tot (e + 37) 167 [.ref 213, .int 123] w (fun v7 s6 => v7 = none ∧ (Tot (e + 37) 169 [.ref 213, .int 4] s6 (fun v9 s8 => v9 = none ∧ (∀ s10, s10 = sf s8 27 0 → (¬ ((s10.1 8).toInt = 0) → w_184_133 (Tot (e + 37)) a1 a1 (-1) s10 (fun v s' => v = none ∧ FQ own b n W F D Hh s s')) ∧ ((s10.1 8).toInt = 0 → Tot (e + 37) 175 [.ref 213] s10 (fun v12 s11 => ∃ x13, v12 = some (.int x13) ∧ (w_184_133 (Tot (e + 37)) a1 a1 x13 s11 (fun v s' => v = none ∧ FQ own b n W F D Hh s s')))))))) := by
    intro w K hK wT wN w26 w42 w52 w63 wq
    refine Tot.imp (Tot.mono (by omega) (ts_167 (d := 0) (ch := 123) wT (by decide) (by decide))) ?_
    rintro v s6 ⟨rfl, x6, y6, rfl, T6, hx6, q6⟩
    refine ⟨rfl, ?_⟩
    refine Tot.imp (Tot.mono (by omega) (ts_169 (d := 0) (ch := 4) T6 (by decide) (by decide))) ?_
    rintro v s8 ⟨rfl, x8, y8, rfl, T8, hx8, q8⟩
    refine ⟨rfl, ?_⟩
    rintro s10 rfl
    have e8 : (sf (sf (sf (sf (sf w 8 y6) 7 x6) 8 y8) 7 x8) 27 0).1 8 = y8 := rfl
    rw [e8]
    have nf : NF b (cU (s.1 26).toInt.toNat (60 * b + F) Hh (84 * b + D) b) s (sf (sf (sf (sf (sf w 8 y6) 7 x6) 8 y8) 7 x8) 27 0) := NF_sf (NF_sf (NF_sf (NF_sf (NF_sf wN (by decide)) (by decide)) (by decide)) (by decide)) (by decide)
    refine ⟨fun y0 => f133 (e := e + 35) hF hD h1 r52 r63 hK (TS_mo (TS_27 T8) (by decide) (by decide)) nf w26 w42 w52 w63 (fun q => absurd q y0), fun y0 => ?_⟩
    have w8 : (w.1 8).toInt = 0 := (q6 (q8 y0).1).1.1
    obtain ⟨g1, g2, g3, g4, own', g5, g6⟩ := wq w8
    refine Tot.imp (ts_175 (d := e) (TS_27 (v := 0) T8) (by decide) y0 (by show (0 : Int32).toInt = 0; decide)) ?_
    rintro v s11 ⟨ee, rfl, T11, f11, n11, q11⟩
    have p26 : (sf (sf (sf (sf (sf w 8 y6) 7 x6) 8 y8) 7 x8) 27 0).1 26 = w.1 26 := rfl
    have p7 : (sf (sf (sf (sf (sf w 8 y6) 7 x6) 8 y8) 7 x8) 27 0).1 7 = x8 := rfl
    rw [p26] at f11 n11 q11
    rw [p7] at q11
    refine ⟨_, rfl, ?_⟩
    have dv : (w.1 26).toInt.toNat / 4002 = b := TS_dv wT (by decide)
    refine f133 (e := e + 35) hF hD h1 r52 r63 hK (TS_mo T11 (by decide) (by decide)) (NF_tr nf (NF_fr (c := cU (s.1 26).toInt.toNat (60 * b + F) Hh (84 * b + D) b) f11 dv (fun p hp => by rw [cU_n hp]; omega)) (fun _ => Nat.le_refl _)) (by omega) (by rw [f11.1 42 (by decide)]; exact w42) (by rw [Fr_row f11 (by decide)]; exact w52) (by rw [Fr_row f11 (by decide)]; exact w63) (fun q => ?_)
    obtain ⟨m1, m2, m3⟩ := q11 q
    have nd : ND (w.1 26).toInt.toNat w s11 := ND_tr (s' := sf (sf (sf (sf (sf w 8 y6) 7 x6) 8 y8) 7 x8) 27 0) ⟨fun _ _ _ _ => rfl, rfl, rfl⟩ (ND_fr f11) (Nat.le_refl _)
    have rr : ∀ p, p ∉ ndB → s11.2.1 p = w.2.1 p := fun p hp => by
      have := Fr_row f11 hp
      exact this
    refine ⟨g1, by have : (w.1 7).toInt ≤ x6.toInt := hx6; have : x6.toInt ≤ x8.toInt := hx8; omega, by rw [rr 257 (by decide)]; exact g3, RFa_eq g4 nd.2.1 nd.2.2 (fun p hp => by rw [rr p (by clear rr; revert p; decide)]), fun z => if z < (w.1 26).toInt.toNat then own' z else (258, 60 * b + F), fun z hz => ?_, RH_eq g6 nd (fun p hp => by rw [rr p (by clear rr; revert p; decide)]) (fun p hp _ _ => by rw [rr p (by clear rr; revert p; decide)]) (fun z hz => if_pos hz) (by omega), (w.1 26).toInt.toNat, (s11.1 26).toInt.toNat, m2, by omega, Nat.le_refl _, m3, fun z z1 _ => if_neg (by omega)⟩
    show (if z < _ then _ else _) = _
    rw [if_pos (by omega)]
    exact g5 z hz
  by_cases u8 : (u.1 8).toInt = 0
  · refine Tot.imp (Tot.mono (by omega) (s_183 (own := own) (e := e) (h := Hh) Xu.1 (by decide) hH (by rw [Xu.2.2.2.1]; exact h42) u8)) ?_
    rintro v w ⟨rfl, q1, q2, q3, q4, q5⟩
    refine ⟨rfl, ?_⟩
    rw [Xu.2.2.1] at q2 q3 q5
    have wr : ∀ p, p ∉ ndB → p ∉ hR → p ∉ h6 → w.2.1 p = u.2.1 p := by
      intro p p1 p2 p3
      refine NF_20 q2 hb ?_
      unfold cH
      rw [if_neg p1, if_neg p2, if_neg p3]
    have cle : ∀ p, cU (s.1 26).toInt.toNat (60 * b + F) Hh (84 * b + D) b p ≤ cH (s.1 26).toInt.toNat Hh p := by
      intro p
      unfold cH
      split
      · rename_i q
        rw [cU_n q]
        exact Nat.le_refl _
      · split
        · rename_i q
          rw [cU_h q]
          exact Nat.le_refl _
        · split
          · rename_i q
            rw [cU_h6 q]
            exact Nat.le_refl _
          · exact cU_le (by omega) (by omega) (by omega) (by omega) (by omega)
    refine last w 1 (by decide) q1 (NF_tr Xu.2.1 q2 cle) q3 q4 (by rw [wr 252 (by decide) (by decide) (by decide), Xu.2.2.2.2 252 (by decide)]) (by rw [wr 263 (by decide) (by decide) (by decide), Xu.2.2.2.2 263 (by decide)]) (fun q => ?_)
    obtain ⟨m1, own', m2, m3⟩ := q5 q
    have := uq u8
    refine ⟨rfl, by omega, by rw [wr 257 (by decide) (by decide) (by decide), u57]; exact h42, RFa_eq this.2 (wr 215 (by decide) (by decide) (by decide)) (wr 217 (by decide) (by decide) (by decide)) (fun p hp => by rw [wr p (by clear wr; revert p; decide) (by clear wr; revert p; decide) (by clear wr; revert p; decide)]), own', m2, m3⟩
  · refine Tot.imp (Tot.mono (by omega) (s_183f (e := 0) u8 Xu.1.2.1.1)) ?_
    rintro v w ⟨rfl, ew⟩
    have ew := ew.symm
    subst ew
    exact ⟨rfl, last u 0 (by decide) Xu.1 Xu.2.1 (by rw [Xu.2.2.1]; exact Int.le_refl _) (by rw [Xu.2.2.2.1, h42]; omega) (Xu.2.2.2.2 252 (by decide)) (Xu.2.2.2.2 263 (by decide)) (fun q => absurd q u8)⟩
