/-! ===== a token more ===== -/
/-- n tokens stand -/
def TKI (s : zS) (P n : Nat) : Prop := (s.1 (P + 4) 2).toInt = (n : Int) ∧ (∀ t, t < n → okT s P t) ∧ CHI s P n ∧ (∀ t, t < n → (s.2 (P + 4) t).toInt = 1 → ∃ u : Nat, u ≤ t ∧ (s.2 (P + 10) t).toInt = (u : Int) ∧ fw s P u ∧ eqT s P u t) ∧ ∀ t u, t < u → u < n → fw s P t → fw s P u → ¬ eqT s P t u
/-- signs and the first n tokens stay -/
def ZFT (P n : Nat) (s s' : zS) : Prop := s'.2 (P + 2) = s.2 (P + 2) ∧ ∀ t, t < n → s'.2 (P + 4) t = s.2 (P + 4) t ∧ s'.2 (P + 6) t = s.2 (P + 6) t ∧ s'.2 (P + 8) t = s.2 (P + 8) t ∧ s'.2 (P + 10) t = s.2 (P + 10) t
section ZFTs
variable {P n t u : Nat} {s s' : zS}
theorem ZFT_pl (h : ZFT P n s s') (ht : t < n) : zpl s' P t = zpl s P t ∧ zln s' P t = zln s P t := by
  unfold zpl zln
  rw [(h.2 t ht).2.1, (h.2 t ht).2.2.1]
  exact ⟨rfl, rfl⟩
theorem ZFT_fw (h : ZFT P n s s') (ht : t < n) : fw s' P t ↔ fw s P t := by
  unfold fw
  rw [(h.2 t ht).1, (h.2 t ht).2.2.2]
theorem ZFT_hx (h : ZFT P n s s') (ht : t < n) : hix s' P t = hix s P t := by
  unfold hix
  rw [h.1, (ZFT_pl h ht).1, (ZFT_pl h ht).2]
theorem ZFT_eq (h : ZFT P n s s') (ht : t < n) (hu : u < n) : eqT s' P t u ↔ eqT s P t u := by
  unfold eqT
  rw [h.1, (ZFT_pl h ht).1, (ZFT_pl h ht).2, (ZFT_pl h hu).1, (ZFT_pl h hu).2]
theorem ZFT_ok (h : ZFT P n s s') (ht : t < n) : okT s' P t ↔ okT s P t := by
  unfold okT
  rw [(h.2 t ht).2.1, (h.2 t ht).2.2.1]
theorem ZFT_mo (h : ZFT P n s s') {m : Nat} (hm : m ≤ n) : ZFT P m s s' := ⟨h.1, fun t ht => h.2 t (by omega)⟩
theorem ZFT_tr {s'' : zS} (h : ZFT P n s s') (g : ZFT P n s' s'') : ZFT P n s s'' := ⟨g.1.trans h.1, fun t ht => ⟨(g.2 t ht).1.trans (h.2 t ht).1, (g.2 t ht).2.1.trans (h.2 t ht).2.1, (g.2 t ht).2.2.1.trans (h.2 t ht).2.2.1, (g.2 t ht).2.2.2.trans (h.2 t ht).2.2.2⟩⟩
theorem ZFT_ch {m b : Nat} {H : Int} (h : ZFT P n s s') (hm : m ≤ n) (hc : CHc s P m b H) : CHc s' P m b H := by
  obtain ⟨c1, c2, c3, c4⟩ := hc
  refine ⟨c1, c2, fun h0 => ?_, fun w w1 w2 w3 => ?_⟩
  · obtain ⟨k1, k2⟩ := c3 h0
    rw [ZFT_fw h (by omega), ZFT_hx h (by omega)]
    exact ⟨k1, k2⟩
  · rw [ZFT_fw h (by omega)] at w3
    rw [ZFT_hx h (by omega)]
    exact c4 w w1 w2 w3
theorem ZFT_CHI (h : ZFT P n s s') (h14 : s'.2 (P + 14) = s.2 (P + 14)) (h16 : ∀ u, u < n → s'.2 (P + 16) u = s.2 (P + 16) u) (hc : CHI s P n) : CHI s' P n := by
  refine ⟨fun b hb => ?_, fun u hu hf => ?_⟩
  · rw [h14]
    exact ZFT_ch h (Nat.le_refl _) (hc.1 b hb)
  · rw [h16 u hu, ZFT_hx h hu]
    exact ZFT_ch h (by omega) (hc.2 u hu ((ZFT_fw h hu).mp hf))
theorem CHc_up {m b : Nat} {H : Int} (hc : CHc s P m b H) (h : fw s P m → ¬ hix s P m = b) : CHc s P (m + 1) b H := by
  obtain ⟨c1, c2, c3, c4⟩ := hc
  refine ⟨c1, by omega, c3, fun w w1 w2 w3 => ?_⟩
  by_cases e : w = m
  · rw [e] at w3 ⊢
    exact h w3
  · exact c4 w w1 (by omega) w3
theorem TKI_ext (h : TKI s P n) (hF : ZFT P n s s') (h2 : (s'.1 (P + 4) 2).toInt = (n : Int) + 1) (ho : okT s' P n) (h16 : ∀ u, u < n → s'.2 (P + 16) u = s.2 (P + 16) u) (hc : (¬ fw s' P n ∧ s'.2 (P + 14) = s.2 (P + 14) ∧ ((s'.2 (P + 4) n).toInt = 1 → ∃ u : Nat, u < n ∧ (s'.2 (P + 10) n).toInt = (u : Int) ∧ fw s P u ∧ eqT s' P u n)) ∨ (fw s' P n ∧ (∀ b, s'.2 (P + 14) b = if b = hix s' P n then s'.2 (P + 14) (hix s' P n) else s.2 (P + 14) b) ∧ (s'.2 (P + 14) (hix s' P n)).toInt = (n : Int) + 1 ∧ s'.2 (P + 16) n = s.2 (P + 14) (hix s' P n) ∧ ∀ u, u < n → fw s P u → ¬ eqT s' P u n)) : TKI s' P (n + 1) := by
  obtain ⟨k1, k2, k3, k4, k5⟩ := h
  have old : ∀ t, t < n → (s'.2 (P + 4) t).toInt = 1 → ∃ u : Nat, u ≤ t ∧ (s'.2 (P + 10) t).toInt = (u : Int) ∧ fw s' P u ∧ eqT s' P u t := fun t ht e => by
    rw [(hF.2 t ht).1] at e
    obtain ⟨u, u1, u2, u3, u4⟩ := k4 t ht e
    exact ⟨u, u1, by rw [(hF.2 t ht).2.2.2]; exact u2, (ZFT_fw hF (by omega)).mpr u3, (ZFT_eq hF (by omega) ht).mpr u4⟩
  have oks : ∀ t, t < n + 1 → okT s' P t := fun t ht => by
    by_cases e : t = n
    · rw [e]
      exact ho
    · exact (ZFT_ok hF (by omega)).mpr (k2 t (by omega))
  have oldd : ∀ t u, t < u → u < n → fw s' P t → fw s' P u → ¬ eqT s' P t u := fun t u h1 h2 h3 h4 h5 => k5 t u h1 h2 ((ZFT_fw hF (by omega)).mp h3) ((ZFT_fw hF h2).mp h4) ((ZFT_eq hF (by omega) h2).mp h5)
  refine ⟨by omega, oks, ⟨fun b hb => ?_, fun u hu hf => ?_⟩, fun t ht e => ?_, fun t u h1 h2 h3 h4 h5 => ?_⟩
  · have c0 := ZFT_ch hF (Nat.le_refl _) (k3.1 b hb)
    rcases hc with ⟨c1, c2, -⟩ | ⟨c1, c2, c3, -⟩
    · rw [c2]
      exact CHc_up c0 (fun w => absurd w c1)
    · by_cases eb : b = hix s' P n
      · rw [eb, c3]
        refine ⟨by omega, by omega, fun _ => ?_, fun w w1 w2 => by omega⟩
        rw [show ((n : Int) + 1 - 1).toNat = n by omega]
        exact ⟨c1, rfl⟩
      · rw [c2 b, if_neg eb]
        exact CHc_up c0 (fun _ w => eb w.symm)
  · by_cases eu : u = n
    · subst eu
      rcases hc with ⟨c1, -⟩ | ⟨c1, c2, c3, c4, -⟩
      · exact absurd hf c1
      · rw [c4]
        exact ZFT_ch hF (Nat.le_refl _) (k3.1 _ hix_lt)
    · have hu : u < n := by omega
      rw [h16 u hu, ZFT_hx hF hu]
      exact ZFT_ch hF (by omega) (k3.2 u hu ((ZFT_fw hF hu).mp hf))
  · by_cases et : t = n
    · subst et
      rcases hc with ⟨-, -, c3⟩ | ⟨c1, -⟩
      · obtain ⟨u, u1, u2, u3, u4⟩ := c3 e
        exact ⟨u, by omega, u2, (ZFT_fw hF u1).mpr u3, u4⟩
      · exact ⟨t, Nat.le_refl _, c1.2, c1, eqp_rf⟩
    · exact old t (by omega) e
  · by_cases eu : u = n
    · subst eu
      rcases hc with ⟨c1, -⟩ | ⟨-, -, -, -, c5⟩
      · exact c1 h4
      · exact c5 t h1 ((ZFT_fw hF h1).mp h3) h5
    · exact oldd t u h1 (by omega) h3 h4 h5
end ZFTs
/-- rows of a text that a token touches -/
def tkR (P : Nat) : List Nat := [P + 4, P + 6, P + 8, P + 10, P + 14, P + 16]
section ZLEX2
variable {d P : Nat} {s : zS} {a1 a2 a3 : Int32}
/-- addToken -/
theorem zs_113 {n : Nat} (hP : P = 3 ∨ P = 39) (h : TKI s P n) (hn : n ≤ 4000) (h2 : 0 ≤ a2.toInt ∧ a2.toInt ≤ 4000) (h3 : 0 ≤ a3.toInt ∧ a3.toInt ≤ 4000) : Zt (d + 11) (wd P 113) 113 [.ref (P + 1), .int a1, .int a2, .int a3] s (fun v s' => v = none ∧ TKI s' P (n + 1) ∧ ZFT P n s s' ∧ (s'.2 (P + 4) n = a1 ∧ s'.2 (P + 6) n = a2 ∧ s'.2 (P + 8) n = a3) ∧ (∀ b, b ∉ tkR P → s'.2 b = s.2 b) ∧ ∀ b k, ¬ (b = P + 4 ∧ k = 2) → s'.1 b k = s.1 b k) := by
  obtain ⟨l1, l2, l3, l4, l5, l6, l7, l8⟩ := limP hP
  refine zc_113 (d := d + 2) hP ?_
  have k1 := h.1
  have en : (s.1 (P + 4) 2).toInt.toNat = n := by omega
  unfold v_113_0
  rintro s1 rfl
  refine ⟨by omega, ?_⟩
  rintro s2 rfl s3 rfl
  rw [za_in (a := P + 4) (by rw [l2]; omega), zt_in (a := P + 6) (x := s.1 (P + 4) 2) (by rw [l3]; omega), zt_in (a := P + 8) (x := s.1 (P + 4) 2) (by rw [l4]; omega), en]
  obtain ⟨s3, hs3⟩ : ∃ s3, s3 = zr (zr (zf (zr s (P + 4) n a1) (P + 4) 2 (s.1 (P + 4) 2 + 1)) (P + 6) n a2) (P + 8) n a3 := ⟨_, rfl⟩
  rw [← hs3]
  have r3 : ∀ b j, s3.2 b j = if b = P + 8 ∧ j = n then a3 else if b = P + 6 ∧ j = n then a2 else if b = P + 4 ∧ j = n then a1 else s.2 b j := fun b j => by
    rw [hs3, zr_2, zr_2, zf_2, zr_2]
  have f3 : ∀ b k, s3.1 b k = if b = P + 4 ∧ k = 2 then s.1 (P + 4) 2 + 1 else s.1 b k := fun b k => by
    rw [hs3]
    rfl
  have ez : (s.1 (P + 4) 2 + 1).toInt = (n : Int) + 1 := by
    rw [i_add (x := s.1 (P + 4) 2) (y := 1) rfl i1 (by omega)]
    omega
  have F3 : ZFT P n s s3 := by
    refine ⟨funext (fun j => by rw [r3, if_neg (by omega), if_neg (by omega), if_neg (by omega)]), fun t ht => ?_⟩
    simp only [r3]
    refine ⟨?_, ?_, ?_, ?_⟩ <;> rw [if_neg (by omega), if_neg (by omega), if_neg (by omega)]
  have ok3 : okT s3 P n := by
    unfold okT
    rw [r3, if_neg (by omega), if_pos ⟨rfl, rfl⟩, r3, if_pos ⟨rfl, rfl⟩]
    exact ⟨h2, h3⟩
  have C3 : CHI s3 P n := ZFT_CHI F3 (funext (fun j => by rw [r3, if_neg (by omega), if_neg (by omega), if_neg (by omega)])) (fun u _ => by rw [r3, if_neg (by omega), if_neg (by omega), if_neg (by omega)]) h.2.2.1
  have e14 : ∀ j, s3.2 (P + 14) j = s.2 (P + 14) j := fun j => by rw [r3, if_neg (by omega), if_neg (by omega), if_neg (by omega)]
  have e16 : ∀ j, s3.2 (P + 16) j = s.2 (P + 16) j := fun j => by rw [r3, if_neg (by omega), if_neg (by omega), if_neg (by omega)]
  have oth : ∀ b, b ∉ tkR P → ∀ j, s3.2 b j = s.2 b j := fun b hb j => by
    unfold tkR at hb
    simp only [List.mem_cons, List.not_mem_nil, or_false, not_or] at hb
    rw [r3, if_neg (by omega), if_neg (by omega), if_neg (by omega)]
  have mem : ∀ b, b ∉ tkR P → ¬ b = P + 10 ∧ ¬ b = P + 14 ∧ ¬ b = P + 16 := fun b hb => by
    unfold tkR at hb
    simp only [List.mem_cons, List.not_mem_nil, or_false, not_or] at hb
    omega
  -- a word's first: not this one
  have endA : ∀ t2 : Int32, 0 ≤ t2.toInt → t2.toInt ≤ (n : Int) → ((¬ a1.toInt = 1 ∧ t2.toInt = (n : Int)) ∨ (a1.toInt = 1 ∧ ∃ u : Nat, u < n ∧ t2.toInt = (u : Int) ∧ fw s3 P u ∧ eqT s3 P u n)) → v_113_29 (fun j => Zt (d + 2 + 8) (wd P j) j) P a1 a2 a3 (s.1 (P + 4) 2) (s.1 (P + 4) 2) t2 s3 (fun v s' => v = none ∧ TKI s' P (n + 1) ∧ ZFT P n s s' ∧ (s'.2 (P + 4) n = a1 ∧ s'.2 (P + 6) n = a2 ∧ s'.2 (P + 8) n = a3) ∧ (∀ b, b ∉ tkR P → s'.2 b = s.2 b) ∧ ∀ b k, ¬ (b = P + 4 ∧ k = 2) → s'.1 b k = s.1 b k) := by
    intro t2 t0 tn hcase
    unfold v_113_29
    refine ⟨by omega, ?_⟩
    rintro s4 rfl
    rw [zt_in (a := P + 10) (x := s.1 (P + 4) 2) (by rw [l5]; omega), en]
    have r4 : ∀ b j, (zr s3 (P + 10) n t2).2 b j = if b = P + 10 ∧ j = n then t2 else s3.2 b j := fun b j => zr_2
    have F4 : ZFT P n s3 (zr s3 (P + 10) n t2) := by
      refine ⟨funext (fun j => by rw [r4, if_neg (by omega)]), fun t ht => ?_⟩
      simp only [r4]
      refine ⟨?_, ?_, ?_, ?_⟩ <;> rw [if_neg (by omega)]
    have F := ZFT_tr F3 F4
    have kn : (zr s3 (P + 10) n t2).2 (P + 4) n = a1 := by rw [r4, if_neg (by omega), r3, if_neg (by omega), if_neg (by omega), if_pos ⟨rfl, rfl⟩]
    have wn : (zr s3 (P + 10) n t2).2 (P + 10) n = t2 := by rw [r4, if_pos ⟨rfl, rfl⟩]
    have en4 : ∀ u, u < n → (eqT (zr s3 (P + 10) n t2) P u n ↔ eqT s3 P u n) := fun u _ => by
      unfold eqT zpl zln
      rw [F4.1]
      simp only [r4]
      rw [if_neg (by omega), if_neg (by omega), if_neg (by omega), if_neg (by omega)]
    refine ⟨rfl, TKI_ext h F ?_ ?_ (fun u hu => ?_) (Or.inl ⟨fun w => ?_, funext (fun j => ?_), fun w => ?_⟩), F, ⟨kn, ?_, ?_⟩, fun b hb => funext (fun j => ?_), fun b k hbk => ?_⟩
    · show (s3.1 (P + 4) 2).toInt = _
      rw [f3, if_pos ⟨rfl, rfl⟩]
      exact ez
    · unfold okT
      rw [r4, if_neg (by omega), r4, if_neg (by omega)]
      exact ok3
    · rw [r4, if_neg (by omega), e16]
    · obtain ⟨w1, w2⟩ := w
      rw [kn] at w1
      rw [wn] at w2
      rcases hcase with hc | ⟨-, u, u1, u2, -⟩
      · exact hc.1 w1
      · omega
    · rw [r4, if_neg (by omega), e14]
    · rw [kn] at w
      rcases hcase with hc | ⟨-, u, u1, u2, u3, u4⟩
      · exact absurd w hc.1
      · exact ⟨u, u1, by rw [wn]; exact u2, (ZFT_fw F3 u1).mp u3, (en4 u u1).mpr u4⟩
    · rw [r4, if_neg (by omega), r3, if_neg (by omega), if_pos ⟨rfl, rfl⟩]
    · rw [r4, if_neg (by omega), r3, if_pos ⟨rfl, rfl⟩]
    · rw [r4, if_neg (fun w => (mem b hb).1 w.1), oth b hb]
    · show s3.1 b k = _
      rw [f3, if_neg hbk]
  refine ⟨fun h1 => endA _ (by omega) (by omega) (Or.inl ⟨h1, k1⟩), fun h1 => ?_⟩
  refine Zt.imp (zs_114 (d := d) (n := n) hP k1 hn (fun t ht => ?_) C3) ?_
  · by_cases e : t = n
    · rw [e]
      exact ok3
    · exact (ZFT_ok F3 (by omega)).mpr (h.2.1 t (by omega))
  rintro v s5 ⟨r, rfl, ⟨rfl, u, u1, u2, u3, u4⟩ | ⟨rfl, hno, rfl⟩⟩
  · exact ⟨r, rfl, endA r (by omega) (by omega) (Or.inr ⟨h1, u, u1, u2, u3, u4⟩)⟩
  · refine ⟨_, rfl, ?_⟩
    unfold v_113_29
    refine ⟨by omega, ?_⟩
    rintro s4 rfl
    rw [zt_in (a := P + 10) (x := s.1 (P + 4) 2) (by rw [l5]; omega), en]
    obtain ⟨s6, hs6⟩ : ∃ s6, s6 = zr (zr (zr s3 (P + 16) n (s3.2 (P + 14) (hix s3 P n))) (P + 14) (hix s3 P n) (s.1 (P + 4) 2 + 1)) (P + 10) n (s.1 (P + 4) 2) := ⟨_, rfl⟩
    rw [← hs6]
    have r6 : ∀ b j, s6.2 b j = if b = P + 10 ∧ j = n then s.1 (P + 4) 2 else if b = P + 14 ∧ j = hix s3 P n then s.1 (P + 4) 2 + 1 else if b = P + 16 ∧ j = n then s3.2 (P + 14) (hix s3 P n) else s3.2 b j := fun b j => by rw [hs6, zr_2, zr_2, zr_2]
    have F6 : ZFT P n s3 s6 := by
      refine ⟨funext (fun j => by rw [r6, if_neg (by omega), if_neg (by omega), if_neg (by omega)]), fun t ht => ?_⟩
      simp only [r6]
      refine ⟨?_, ?_, ?_, ?_⟩ <;> rw [if_neg (by omega), if_neg (by omega), if_neg (by omega)]
    have F := ZFT_tr F3 F6
    have kn : s6.2 (P + 4) n = a1 := by rw [r6, if_neg (by omega), if_neg (by omega), if_neg (by omega), r3, if_neg (by omega), if_neg (by omega), if_pos ⟨rfl, rfl⟩]
    have pn : s6.2 (P + 6) n = a2 := by rw [r6, if_neg (by omega), if_neg (by omega), if_neg (by omega), r3, if_neg (by omega), if_pos ⟨rfl, rfl⟩]
    have ln : s6.2 (P + 8) n = a3 := by rw [r6, if_neg (by omega), if_neg (by omega), if_neg (by omega), r3, if_pos ⟨rfl, rfl⟩]
    have pn3 : s3.2 (P + 6) n = a2 := by rw [r3, if_neg (by omega), if_pos ⟨rfl, rfl⟩]
    have ln3 : s3.2 (P + 8) n = a3 := by rw [r3, if_pos ⟨rfl, rfl⟩]
    have hx6 : hix s6 P n = hix s3 P n := by
      unfold hix zpl zln
      rw [F6.1, pn, ln, pn3, ln3]
    have en6 : ∀ u, u < n → (eqT s6 P u n ↔ eqT s3 P u n) := fun u hu => by
      unfold eqT
      rw [F6.1, (ZFT_pl F6 hu).1, (ZFT_pl F6 hu).2]
      unfold zpl zln
      rw [pn, ln, pn3, ln3]
    refine ⟨rfl, TKI_ext h F ?_ ?_ (fun u hu => ?_) (Or.inr ⟨⟨by rw [kn]; exact h1, by rw [r6, if_pos ⟨rfl, rfl⟩]; exact k1⟩, fun b => ?_, ?_, ?_, fun u hu hf w => ?_⟩), F, ⟨kn, pn, ln⟩, fun b hb => funext (fun j => ?_), fun b k hbk => ?_⟩
    · rw [hs6]
      show (s3.1 (P + 4) 2).toInt = _
      rw [f3, if_pos ⟨rfl, rfl⟩]
      exact ez
    · unfold okT
      rw [pn, ln]
      exact ⟨h2, h3⟩
    · rw [r6, if_neg (by omega), if_neg (by omega), if_neg (by omega), e16]
    · rw [hx6]
      by_cases eb : b = hix s3 P n
      · rw [if_pos eb, eb]
      · rw [if_neg eb, r6, if_neg (by omega), if_neg (fun w => eb w.2), if_neg (by omega), e14]
    · rw [hx6, r6, if_neg (by omega), if_pos ⟨rfl, rfl⟩]
      exact ez
    · rw [hx6, r6, if_neg (by omega), if_neg (by omega), if_pos ⟨rfl, rfl⟩, e14]
    · exact hno u hu ((ZFT_fw F3 hu).mpr hf) ((en6 u hu).mp w)
    · obtain ⟨m1, m2, m3⟩ := mem b hb
      rw [r6, if_neg (fun w => m1 w.1), if_neg (fun w => m2 w.1), if_neg (fun w => m3 w.1), oth b hb]
    · rw [hs6]
      show s3.1 b k = _
      rw [f3, if_neg hbk]
end ZLEX2
