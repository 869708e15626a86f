/-! ===== takeList, behindPoint ===== -/
/-- takeE's end, begun without a fault -/
def EQ (b n m : Nat) (s : yS) (v : Option Value) (s' : yS) : Prop :=
  ∃ e : Int32, v = some (.int e) ∧ Rd b n s' ∧ Fr (s.1 26).toInt.toNat s s' ∧ s'.1 27 = s.1 27 ∧ (s.1 26).toInt ≤ e.toInt ∧ e.toInt < (s'.1 26).toInt ∧
  ((s'.1 8).toInt = 0 → (3 * (s'.1 26).toInt - 2 * (s'.1 7).toInt ≤ 3 * (s.1 26).toInt - 2 * (s.1 7).toInt + 1 ∧ 4 * (cm b s' : Int) - (s'.1 7).toInt ≤ 4 * (cm b s : Int) - (s.1 7).toInt) ∧ (s.1 7).toInt < (s'.1 7).toInt ∧ (s'.2.1 225 e.toInt.toNat).toInt = -1 ∧ nmAt s ∧ isE b n s' (m + 1) (s.1 26).toInt.toNat (s'.1 26).toInt.toNat e.toInt.toNat) ∧
  (¬ (s'.1 8).toInt = 0 → (s'.1 26).toInt ≤ 4002 * (b : Int) + 2740 ∧ (s'.1 7).toInt ≤ 4002 * (b : Int) + n + 40)
def EP (b n W m d : Nat) : Prop := ∀ s : yS, Lx b n W s → Rd b n s → (s.1 8).toInt = 0 → (s.1 27).toInt = 10 - (m : Int) → m ≤ 10 → 4002 * (b : Int) ≤ (s.1 26).toInt → 3 * ((s.1 26).toInt - 4002 * (b : Int)) - 2 * ((s.1 7).toInt - 4002 * (b : Int)) ≤ 58 - 4 * (m : Int) → Tot d 175 [.ref 213] s (EQ b n m s)
def LQ (b n m : Nat) (s : yS) (v : Option Value) (s' : yS) : Prop :=
  ∃ f : Int32, v = some (.int f) ∧ Rd b n s' ∧ Fr (s.1 26).toInt.toNat s s' ∧ s'.1 27 = s.1 27 ∧ (s.1 26).toInt + 1 ≤ (s'.1 26).toInt ∧
  ((s'.1 8).toInt = 0 → (3 * (s'.1 26).toInt - 2 * (s'.1 7).toInt ≤ 3 * (s.1 26).toInt - 2 * (s.1 7).toInt + 1 ∧ 4 * (cm b s' : Int) - (s'.1 7).toInt ≤ 4 * (cm b s : Int) - (s.1 7).toInt) ∧ (s.1 7).toInt < (s'.1 7).toInt ∧ eqs (isE b n s' (m + 1)) s' f.toInt (s'.1 28).toInt (s.1 26).toInt.toNat (s'.1 26).toInt.toNat) ∧
  (¬ (s'.1 8).toInt = 0 → (s'.1 26).toInt ≤ 4002 * (b : Int) + 2740 ∧ (s'.1 7).toInt ≤ 4002 * (b : Int) + n + 40)
/-- the row of E so far -/
def LI (b n m : Nat) (s0 : yS) (a1 a2 a3 : Int32) (s : yS) : Prop :=
  1 ≤ a3.toInt ∧ a3.toInt ≤ 7 ∧ Rd b n s ∧ Fr (s0.1 26).toInt.toNat s0 s ∧ s.1 27 = s0.1 27 ∧ (s0.1 26).toInt + 1 ≤ (s.1 26).toInt ∧ (s0.1 26).toInt ≤ a2.toInt ∧ a2.toInt < (s.1 26).toInt ∧
  ((s.1 8).toInt = 0 → (3 * (s.1 26).toInt - 2 * (s.1 7).toInt ≤ 3 * (s0.1 26).toInt - 2 * (s0.1 7).toInt + 1 ∧ 4 * (cm b s : Int) - (s.1 7).toInt ≤ 4 * (cm b s0 : Int) - (s0.1 7).toInt) ∧ (s0.1 7).toInt < (s.1 7).toInt ∧ ∃ cs : List (Nat × Nat × Nat), cs.length ≤ 6 ∧ a3.toInt = (cs.length : Int) ∧ chn s a1.toInt (cs.map (·.2.2)) ∧ cs.Pairwise (fun a b => a.2.1 ≤ b.1) ∧ (cs.map (·.2.2)).getLast? = some a2.toInt.toNat ∧ ∀ c ∈ cs, (s0.1 26).toInt.toNat ≤ c.1 ∧ c.1 ≤ c.2.2 ∧ c.2.2 < c.2.1 ∧ c.2.1 ≤ (s.1 26).toInt.toNat ∧ (c.2.1 ≤ a2.toInt.toNat ∨ c.2.2 = a2.toInt.toNat) ∧ isE b n s (m + 1) c.1 c.2.1 c.2.2) ∧
  (¬ (s.1 8).toInt = 0 → (s.1 26).toInt ≤ 4002 * (b : Int) + 2740 ∧ (s.1 7).toInt ≤ 4002 * (b : Int) + n + 40)
theorem pw_c {cs : List (Nat × Nat × Nat)} (h : cs.Pairwise (fun a b => a.2.1 ≤ b.1)) (h2 : ∀ c ∈ cs, c.1 ≤ c.2.2 ∧ c.2.2 < c.2.1) : (cs.map (·.2.2)).Pairwise (· < ·) := by
  rw [List.pairwise_map]
  refine List.Pairwise.imp_of_mem ?_ h
  intro a b ha hb hab
  have := h2 a ha
  have := h2 b hb
  omega
theorem s_176 {b n W m d : Nat} {s : yS} (hE : EP b n W m (d + 3)) (hL : Lx b n W s) (hR : Rd b n s) (hf : (s.1 8).toInt = 0) (hD : (s.1 27).toInt = 10 - (m : Int)) (hm : m ≤ 10) (hN : 4002 * (b : Int) ≤ (s.1 26).toInt) (hd : 3 * ((s.1 26).toInt - 4002 * (b : Int)) - 2 * ((s.1 7).toInt - 4002 * (b : Int)) ≤ 58 - 4 * (m : Int)) : Tot (d + 4) 176 [.ref 213] s (LQ b n m s) := by
  have hb := hL.1
  have hn := hL.2.1
  have hA0 := hR.2.2.2.2 hf
  refine t_176 ?_
  unfold w_176_0
  refine Tot.imp (hE s hL hR hf hD hm hN hd) ?_
  rintro v s3 ⟨e3, rfl, y1, y2, y3, y4a, y4, y5, y6⟩
  refine ⟨_, rfl, ?_⟩
  unfold wl_176_7
  refine ⟨fun b1 b2 b3 t => b1 = e3 ∧ LI b n m s e3 b2 b3 t, fun a1 a2 a3 s' => if (s'.1 8).toInt = 0 then (14000 - (s'.1 7).toInt).toNat + 1 else 0, ?_, ?_⟩
  · refine ⟨rfl, by decide, by decide, y1, y2, y3, by omega, by omega, y4, fun q => ?_, y6⟩
    obtain ⟨z1, z2, z3, -, z4⟩ := y5 q
    have zl := isE_lt z4
    refine ⟨by omega, by omega, [((s.1 26).toInt.toNat, (s3.1 26).toInt.toNat, e3.toInt.toNat)], (show 1 ≤ 6 by decide), (show (1 : Int32).toInt = 1 by decide), ⟨by show e3.toInt = (e3.toInt.toNat : Int); omega, z3⟩, List.pairwise_singleton _ _, rfl, fun c hc => ?_⟩
    rw [List.mem_singleton.mp hc]
    exact ⟨Nat.le_refl _, zl.1, zl.2, Nat.le_refl _, Or.inr rfl, z4⟩
  · rintro a1 a2 a3 t ⟨rfl, i1, i2, i3, i4, i5, i6, i7, i8, i9, i10⟩
    have hLt : Lx b n W t := Fr_Lx i4 hL
    have hN0 : (0 : Int) ≤ (s.1 26).toInt := by omega
    have bound : (t.1 8).toInt = 0 → (t.1 26).toInt ≤ 4002 * (b : Int) + 2690 := by
      intro q
      have h1 := (i9 q).1
      have h2 := i3.2.2.2.2 q
      omega
    have hTN : (t.1 26).toInt ≤ 4002 * (b : Int) + 2740 := by
      by_cases q : (t.1 8).toInt = 0
      · have := bound q; omega
      · have := i10 q; omega
    have more : ∀ (u s' : yS) (x3 x5 : Int32), (u.1 26) = t.1 26 → u.1 27 = s.1 27 → Fr (s.1 26).toInt.toNat s u → u.2 = t.2 → (t.1 8).toInt = 0 → Rd b n s' → Fr (t.1 26).toInt.toNat u s' → s'.1 27 = u.1 27 → (t.1 26).toInt ≤ x3.toInt → x3.toInt < (s'.1 26).toInt → x5.toInt = a3.toInt + 1 →
        ((s'.1 8).toInt = 0 → a3.toInt ≤ 5 ∧ (3 * (s'.1 26).toInt - 2 * (s'.1 7).toInt ≤ 3 * (t.1 26).toInt - 2 * (t.1 7).toInt ∧ 4 * (cm b s' : Int) - (s'.1 7).toInt ≤ 4 * (cm b t : Int) - (t.1 7).toInt) ∧ (t.1 7).toInt < (s'.1 7).toInt ∧ (s'.2.1 225 x3.toInt.toNat).toInt = -1 ∧ isE b n s' (m + 1) (t.1 26).toInt.toNat (s'.1 26).toInt.toNat x3.toInt.toNat) → (¬ (s'.1 8).toInt = 0 → (s'.1 26).toInt ≤ 4002 * (b : Int) + 2740 ∧ (s'.1 7).toInt ≤ 4002 * (b : Int) + n + 40) → a3.toInt ≤ 6 →
        LI b n m s a1 x3 x5 (sa s' 225 a2.toInt.toNat x3) := by
      intro u s' x3 x5 u26 u27 uF u2 t8 r' f' e27 e26a e26 h5 g1 g2 g3
      have fS : Fr (s.1 26).toInt.toNat s (sa s' 225 a2.toInt.toNat x3) := Fr_sa (Fr_tr uF f' (by omega)) (by decide) (by omega)
      refine ⟨by omega, by omega, r', fS, e27.trans u27, by show _ ≤ (s'.1 26).toInt; omega, by omega, by show _ < (s'.1 26).toInt; omega, fun q => ?_, g2⟩
      obtain ⟨k1, k2, k3, k4, k5⟩ := g1 q
      have kl := isE_lt k5
      obtain ⟨z1, z2, cs, z3, z4, z5, z6, z7, z8⟩ := i9 t8
      have row : ∀ p y, y < (t.1 26).toInt.toNat → s'.2.1 p y = t.2.1 p y := by
        intro p y hy
        rw [f'.2.1 p y (fun q => by omega), u2]
      have clt : ∀ c ∈ cs, c.1 ≤ c.2.2 ∧ c.2.2 < c.2.1 ∧ c.2.1 ≤ (t.1 26).toInt.toNat := fun c hc => ⟨(z8 c hc).2.1, (z8 c hc).2.2.1, (z8 c hc).2.2.2.1⟩
      refine ⟨by show (3 * (s'.1 26).toInt - 2 * (s'.1 7).toInt ≤ _) ∧ (4 * (cm b s' : Int) - (s'.1 7).toInt ≤ _); omega, by show _ < (s'.1 7).toInt; omega, cs ++ [((t.1 26).toInt.toNat, (s'.1 26).toInt.toNat, x3.toInt.toNat)], by rw [List.length_append]; show cs.length + 1 ≤ 6; omega, by rw [List.length_append, h5, z4]; rfl, ?_, ?_, by simp, ?_⟩
      · rw [List.map_append]
        refine chn_app (by omega) k4 (by omega) _ _ (chn_eq _ _ (fun c hc => ?_) z5) (pw_c z6 (fun c hc => ⟨(clt c hc).1, (clt c hc).2.1⟩)) z7
        obtain ⟨c', hc', rfl⟩ := List.mem_map.mp hc
        have := clt c' hc'
        exact row 225 _ (by omega)
      · rw [List.pairwise_append]
        exact ⟨z6, List.pairwise_singleton _ _, fun a ha b' hb' => by rw [List.mem_singleton.mp hb']; exact (clt a ha).2.2⟩
      · intro c hc
        have t5 : (sa s' 225 a2.toInt.toNat x3).2.1 215 = s.2.1 215 := Fr_row fS (by decide)
        have t7 : (sa s' 225 a2.toInt.toNat x3).2.1 217 = s.2.1 217 := Fr_row fS (by decide)
        have t5' : t.2.1 215 = s.2.1 215 := Fr_row i4 (by decide)
        have t7' : t.2.1 217 = s.2.1 217 := Fr_row i4 (by decide)
        rcases List.mem_append.mp hc with hc | hc
        · obtain ⟨w0, w1, w2, w3, w4, w5⟩ := z8 c hc
          refine ⟨w0, w1, w2, by show _ ≤ (s'.1 26).toInt.toNat; omega, Or.inl (by omega), ?_⟩
          refine isE_eq (t5.trans t5'.symm) (t7.trans t7'.symm) (m + 1) _ _ _ (fun y hy hy2 => ?_) w5
          have hy3 : y < (t.1 26).toInt.toNat := by omega
          have nr : ∀ p, ¬ p = 225 → (sa s' 225 a2.toInt.toNat x3).2.1 p y = t.2.1 p y := by
            intro p hp
            rw [sa_2, if_neg (fun e => hp e.1)]
            exact row _ _ hy3
          refine ⟨⟨nr _ (by decide), nr _ (by decide), nr _ (by decide), nr _ (by decide), nr _ (by decide), nr _ (by decide), fun _ => nr _ (by decide), fun _ => nr _ (by decide)⟩, fun hne => ⟨?_, nr _ (by decide)⟩⟩
          rw [sa_2, if_neg (fun e => by omega)]
          exact row _ _ hy3
        · rw [List.mem_singleton.mp hc]
          refine ⟨by show _ ≤ (t.1 26).toInt.toNat; omega, kl.1, kl.2, Nat.le_refl _, Or.inr rfl, ?_⟩
          refine isE_eq (s := s') (by funext j; rw [sa_2, if_neg (fun e => by omega)]) (by funext j; rw [sa_2, if_neg (fun e => by omega)]) (m + 1) _ _ _ (fun y hy hy2 => ?_) k5
          have nr : ∀ p, ¬ p = 225 → (sa s' 225 a2.toInt.toNat x3).2.1 p y = s'.2.1 p y := by
            intro p hp
            rw [sa_2, if_neg (fun e => hp e.1)]
          have hy' : (t.1 26).toInt.toNat ≤ y := hy
          refine ⟨⟨nr _ (by decide), nr _ (by decide), nr _ (by decide), nr _ (by decide), nr _ (by decide), nr _ (by decide), fun _ => nr _ (by decide), fun _ => nr _ (by decide)⟩, fun hne => ⟨?_, nr _ (by decide)⟩⟩
          rw [sa_2, if_neg (fun e => by omega)]
    have r13 := i3.2.2.2.1
    have mu : ∀ s' : yS, (t.1 8).toInt = 0 → ((s'.1 8).toInt = 0 → (t.1 7).toInt < (s'.1 7).toInt) → (if (s'.1 8).toInt = 0 then (14000 - (s'.1 7).toInt).toNat + 1 else 0) < (if (t.1 8).toInt = 0 then (14000 - (t.1 7).toInt).toNat + 1 else 0) := by
      intro s' h1 h2
      rw [if_pos h1]
      split
      · rename_i h3
        have := h2 h3
        omega
      · omega
    unfold w_176_7 w_176_22
    refine Tot.imp (Tot.mono (by omega) (s_168 (d := 0) (c := 44) hLt i3)) ?_
    rintro v s1 ⟨y, rfl, hy⟩
    refine ⟨y, rfl, fun h0 => ?_, fun h0 => ?_⟩
    · have e1 : s1 = t := by
        rcases hy with hy | hy
        · omega
        · exact hy.2.2
      subst e1
      rintro s6 rfl
      refine ⟨a1, rfl, i3, Fr_sf i4 (by decide), i5, i6, fun q => ?_, i10⟩
      obtain ⟨z1, z2, cs, z3, z4, z5, z6, z7, z8⟩ := i9 q
      refine ⟨z1, z2, cs, z3, z4, chn_eq (s := s1) _ _ (fun _ _ => rfl) z5, z6, fun c hc => ?_⟩
      obtain ⟨w0, w1, w2, w3, w4, w5⟩ := z8 c hc
      exact ⟨w0, w1, w2, w3, isE_sf w5⟩
    · obtain ⟨hsg, x', hx', hlt', rfl⟩ : sgAt t ((44 : Int32).toInt) ∧ ∃ x : Int32, x.toInt = (t.1 7).toInt + 1 ∧ (t.1 7).toInt < 4002 * (b : Int) + n ∧ s1 = sf t 7 x := by
        rcases hy with hy | hy
        · exact hy.2
        · exact absurd hy.1 h0
      have t8 := hsg.1
      have ru := Rd_at i3 hx' hlt' hb hn
      have uF : Fr (s.1 26).toInt.toNat s (sf t 7 x') := Fr_sf i4 (by decide)
      have hLu := Fr_Lx uF hL
      have z1 := (i9 t8).1
      have zlen : a3.toInt ≤ 6 := by
        obtain ⟨-, -, cs, z3, z4, -⟩ := i9 t8
        omega
      have main : (a3.toInt = 6 → ¬ nmAt (sf t 7 x')) → Tot (d + 3) 175 [.ref 213] (sf t 7 x') (fun v2 s1 => ∃ x3, v2 = some (.int x3) ∧ ((0 ≤ a2.toInt ∧ a2.toInt < 12006) ∧ (∀ s4, s4 = sa s1 225 a2.toInt.toNat x3 → (-2147483648 ≤ a3.toInt + 1 ∧ a3.toInt + 1 ≤ 2147483647) ∧ (∀ x5 : Int32, x5.toInt = a3.toInt + 1 → ((a1 = a1 ∧ LI b n m s a1 x3 x5 s4) ∧ (if (s4.1 8).toInt = 0 then (14000 - (s4.1 7).toInt).toNat + 1 else 0) < (if (t.1 8).toInt = 0 then (14000 - (t.1 7).toInt).toNat + 1 else 0)))))) := by
        intro h6
        refine Tot.imp (hE (sf t 7 x') hLu ru t8 (by show (t.1 27).toInt = _; rw [i5]; exact hD) hm (by show _ ≤ (t.1 26).toInt; omega) (by show 3 * ((t.1 26).toInt - _) - 2 * (x'.toInt - _) ≤ _; omega)) ?_
        rintro v s3 ⟨e3, rfl, y1, y2, y3, y4a, y4, y5, y6⟩
        have y4a' : (t.1 26).toInt ≤ e3.toInt := y4a
        refine ⟨_, rfl, by omega, ?_⟩
        rintro s4 rfl
        refine ⟨by omega, fun x5 hx5 => ⟨⟨rfl, more (sf t 7 x') s3 e3 x5 rfl i5 uF rfl t8 y1 y2 y3 y4a' y4 hx5 (fun q => ?_) y6 zlen⟩, mu _ t8 (fun q => ?_)⟩⟩
        · obtain ⟨k1, k2, k3, k4, k5⟩ := y5 q
          have k1' : (3 * (s3.1 26).toInt - 2 * (s3.1 7).toInt ≤ 3 * (t.1 26).toInt - 2 * x'.toInt + 1 ∧ 4 * (cm b s3 : Int) - (s3.1 7).toInt ≤ 4 * (cm b t : Int) - x'.toInt) := k1
          have k2' : x'.toInt < (s3.1 7).toInt := k2
          exact ⟨by
            by_cases h : a3.toInt = 6
            · exact absurd k4 (h6 h)
            · omega, by omega, by omega, k3, k5⟩
        · have k2' : x'.toInt < (s3.1 7).toInt := (y5 q).2.1
          show _ < (s3.1 7).toInt
          omega
      refine ⟨fun h6 => main (fun q => absurd q h6), fun h6 => ?_⟩
      refine Tot.imp (Tot.mono (by omega) (s_166 (d := 0) hLu ru)) ?_
      rintro v s7 ⟨rfl, x9, rfl, h9⟩
      refine ⟨x9, rfl, fun h0 => main (fun _ => ?_), fun h0 => ?_⟩
      · rcases h9 with h9 | h9
        · omega
        · exact h9.2
      · refine Tot.imp (Tot.mono (by omega) (s_163 (d := 0) (w := 5) hLu (by decide) (fun q => ru.2.2.2.2 q))) ?_
        rintro v s10 ⟨rfl, -, g2⟩
        obtain ⟨z, w1, w2, rfl⟩ := g2 t8
        refine ⟨rfl, ?_⟩
        have rv := Rd_ft ru w1 w2
        have vF : Fr (s.1 26).toInt.toNat s (sf (sf t 7 x') 8 z) := Fr_sf uF (by decide)
        have hTA : (t.1 7).toInt ≤ 12100 := by omega
        refine Tot.imp (Tot.mono (by omega) (s_175f (d := 0) (Fr_Lx vF hL) rv (by show ¬ z.toInt = 0; omega) (by show 0 ≤ (t.1 27).toInt ∧ (t.1 27).toInt ≤ 50; rw [i5]; omega) (by show 0 ≤ (t.1 26).toInt ∧ (t.1 26).toInt < 12000; omega) (by show x'.toInt ≤ 12900; omega))) ?_
        rintro v s3 ⟨rfl, hT⟩
        have r3 := FT_Rd hT rv (by show ¬ z.toInt = 0; omega) (by show 0 ≤ (1 : Int) ∧ x'.toInt + 1 ≤ 13000; omega)
        obtain ⟨y1, y2, y3, y4, y5⟩ := hT
        refine ⟨_, rfl, by omega, ?_⟩
        rintro s4 rfl
        have y3' : (s3.1 7).toInt = x'.toInt + 1 := y3
        have y4' : (s3.1 26).toInt = (t.1 26).toInt + 1 := y4
        have y2' : s3.1 8 = z := y2
        have b1 := bound t8
        have q26 : (sf (sf t 7 x') 8 z).1 26 = t.1 26 := rfl
        rw [q26] at y1 ⊢
        refine ⟨by omega, fun x5 hx5 => ⟨⟨rfl, more (sf (sf t 7 x') 8 z) s3 (t.1 26) x5 rfl i5 vF rfl t8 r3 y1 y5 (Int.le_refl _) (by omega) hx5 (fun q => ?_) (fun q => by omega) zlen⟩, mu _ t8 (fun q => ?_)⟩⟩
        · rw [y2'] at q
          omega
        · have q' : (s3.1 8).toInt = 0 := q
          rw [y2'] at q'
          omega
