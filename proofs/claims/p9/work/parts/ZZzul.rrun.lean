/-! ===== the reference's run beside the pure machine: run ===== -/
section ZUS
variable {K L W ar kd : Int → Int} {TN Ls : List Int} {nI A0 A1 mB L0 : Int} {own : Nat → Nat × Nat} {b n W' N T F H S0 : Nat} {G : PG} {S O : Nat} {s : yS} {lo' hi' : Int}
/-- how a run of the reference ends: as the pure machine does, from X to Y -/
def RnQ (ar : Int → Int) (fc : Int → Int → Option (Nat × List Ins)) (mv : List Int → List Int → Int) (nT : Int) (G : PG) (X : PMs) (L0 : Int) (s : yS) (v : Option Value) (s' : yS) : Prop := ∃ (r : Int32) (Y : PMs) (N : Nat), v = some (.int r) ∧ PSn ar fc mv N X Y ∧ N < 1000000 ∧ Y.1 = r.toInt ∧ ¬ Y.1 = 5 ∧ s'.1 91 = r ∧ (((s'.1 94).toInt = (s.1 94).toInt + (L0 - Y.2.2.2.2.2.2.2.1) ∧ (s'.1 95).toInt = L0 - Y.2.2.2.2.2.2.2.1) ∧ (s'.1 93).toInt = Y.2.2.2.2.2.2.2.2.1 ∧ (r.toInt = 1 → (s'.1 92).toInt = Y.2.2.2.2.2.2.2.2.2) ∧ (¬ r.toInt = 1 → (s'.1 92).toInt = -1)) ∧ (r.toInt = 0 → vRl ar nT G s' Y.2.2.2.2.2.2.1 ∧ (s'.1 98).toInt = (Y.2.2.2.2.2.2.1.length : Int) ∧ ∃ w : Nat, (s'.1 103).toInt = (w : Int) ∧ w < Y.2.2.2.2.2.2.1.length ∧ Y.2.2.1 = [.inr w])
theorem mn_94 {a w4 w5 s4 l : Int} (h : min (a - w5) (60000 - w4) = l) (e : w5 - w4 = 0 - s4) : w4 = s4 + (min a (60000 - s4) - l) := by omega
set_option maxHeartbeats 2000000 in
/-- run -/
theorem m_247 {a1 : Int32} (hPR : PRm K L W ar kd nI lo' hi' TN Ls) (hFO : FOk K L W ar kd TN Ls nI) (hA1 : A1 ≤ 13000) (hmn : (p_e K L 10 false (0, mB)).1 = 0 ∧ (exE6 K L W ar kd TN Ls mnS 10 mB).1 = 0 ∧ 0 ≤ mB ∧ nxE K L mB ≤ nI) (hLd : TBr K L W ar kd TN Ls nI b s ∧ (∀ (i : Nat) (t : Int), Ls[i]? = some t → K t = 6 → ∃ x' y' : Int, 0 ≤ x' ∧ eC K L W ar kd TN Ls (4002 * (b : Int)) (4000 + 6 * (kFn K (Ls.take i) : Int)) (2000 + 6 * (kHd K L (Ls.take i) : Int)) (fnS K L W ar TN Ls i t) A0 A1 s 10 x' y' (f_7 K L false (0, t)).2 (s.2.1 258 (60 * (b : Int) + (kFn K (Ls.take i) : Int)).toNat).toInt) ∧ ∃ x' y' : Int, eC K L W ar kd TN Ls (4002 * (b : Int)) 1000 2000 mnS A0 A1 s 10 x' y' mB (s.2.1 259 (b : Int).toNat).toInt) (hC : CK own b n N T F H S0 G s) (hL : Lx b n W' s) (hP : PT b n N F H G S O s) (hM : MN b n N H G S O s) (h29 : (s.1 29).toInt = (b : Int)) (h94 : 0 ≤ (s.1 94).toInt ∧ (s.1 94).toInt ≤ 60000) (hS : S ≤ 8210) (hN : N ≤ 12006) (h90 : ¬ (s.1 90).toInt = 0) (hn : 1 ≤ a1.toInt ∧ a1.toInt ≤ 5000) (hL0 : L0 = min a1.toInt (60000 - (s.1 94).toInt)) : Tot 1514 247 [.ref 213, .int a1] s (RnQ ar (fcD K L W ar kd TN Ls) (mvC K L W ar kd TN Ls) (TN.length : Int) G (X0p K L W ar kd TN Ls mB L0) L0 s) := by
  have h90 : ¬ ((sf s 0 0).1 90).toInt = 0 := h90
  obtain ⟨d1, d2, d3, d4, d5, d6, d7, d8, d9, d10⟩ := id hC
  have hb := d1.1
  refine t_247 ?_
  unfold w_247_0
  rintro s1 rfl
  unfold w_247_12
  refine ⟨fun w => absurd w h90, fun h90 => ⟨fun w => absurd hn.1 (by omega), fun hlo => ⟨fun hhi => ?_, fun w => absurd hn.2 w⟩⟩⟩
  rintro s2 rfl s3 rfl s4 rfl s5 rfl s6 rfl s7 rfl s8 rfl s9 rfl s10 rfl s11 rfl
  have e75 : s.1 29 = s.1 75 := Int32.toInt_inj.mp (by omega)
  obtain ⟨t, ht⟩ : ∃ t, t = sf (sf (sf (sf (sf (sf (sf (sf (sf (sf (sf s 0 0) 75 ((sf s 0 0).1 29)) 96 a1) 95 0) 98 0) 97 13000) 105 0) 106 0) 93 0) 92 (-1)) 70 0 := ⟨_, rfl⟩
  rw [← ht]
  have t2 : t.2 = s.2 := by rw [ht]; rfl
  have tk : ∀ k, k ∉ r7K → t.1 k = s.1 k := by
    intro k hk
    have hh : ∀ j, j ∈ r7K → ¬ k = j := fun j hj w => hk (by rw [w]; exact hj)
    rw [ht, sf_1, if_neg (hh 70 (by decide)), sf_1, if_neg (hh 92 (by decide)), sf_1, if_neg (hh 93 (by decide)), sf_1, if_neg (hh 106 (by decide)), sf_1, if_neg (hh 105 (by decide)), sf_1, if_neg (hh 97 (by decide)), sf_1, if_neg (hh 98 (by decide)), sf_1, if_neg (hh 95 (by decide)), sf_1, if_neg (hh 96 (by decide)), sf_1]
    by_cases e : k = 75
    · rw [if_pos e, e]
      show s.1 29 = s.1 75
      exact e75
    · rw [if_neg e, sf_1, if_neg (hh 0 (by decide))]
  have t70 : (t.1 70).toInt = ((0 : Nat) : Int) := by rw [ht]; rfl
  have t96 : t.1 96 = a1 := by rw [ht]; rfl
  have t95 : (t.1 95).toInt = ((0 : Nat) : Int) := by rw [ht]; rfl
  have t98 : (t.1 98).toInt = ((0 : Nat) : Int) := by rw [ht]; rfl
  have t97 : (t.1 97).toInt = ((13000 : Nat) : Int) := by rw [ht]; rfl
  have t105 : (t.1 105).toInt = ((0 : Nat) : Int) := by rw [ht]; rfl
  have t106 : (t.1 106).toInt = ((0 : Nat) : Int) := by rw [ht]; rfl
  have t93 : (t.1 93).toInt = 0 := by rw [ht]; rfl
  have t94 : t.1 94 = s.1 94 := by rw [ht]; rfl
  have t92 : t.1 92 = -1 := by rw [ht]; rfl
  clear ht
  refine Tot.imp (Tot.mono (by omega) (s_188 (d := 0) (E := 0) t70 (by omega))) ?_
  rintro v u ⟨rfl, x, hx, hu⟩
  have uc : ∀ q i, ¬ (q = 266 ∧ i < 2) → u.2.1 q i = s.2.1 q i := fun q i w => by
    rw [hu, ← t2]
    show (sa (sa t 266 (2 * 0) 0) 266 (2 * 0 + 1) 0).2.1 q i = _
    rw [sa_2, if_neg (fun w' => w ⟨w'.1, by omega⟩), sa_2, if_neg (fun w' => w ⟨w'.1, by omega⟩)]
  have u0 : (u.2.1 266 0).toInt = 0 := by
    rw [hu]
    show ((sa (sa t 266 (2 * 0) 0) 266 (2 * 0 + 1) 0).2.1 266 0).toInt = 0
    rw [sa_2, if_neg (fun w => by omega), sa_2, if_pos ⟨rfl, rfl⟩]
    decide
  have u1 : (u.2.1 266 1).toInt = 0 := by
    rw [hu]
    show ((sa (sa t 266 (2 * 0) 0) 266 (2 * 0 + 1) 0).2.1 266 1).toInt = 0
    rw [sa_2, if_pos ⟨rfl, rfl⟩]
    decide
  have uk : ∀ k, ¬ k = 70 → u.1 k = t.1 k := fun k hk => by
    rw [hu, sf_1, if_neg hk]
    rfl
  have u70 : (u.1 70).toInt = ((1 : Nat) : Int) := by
    rw [hu]
    show x.toInt = _
    omega
  have ul : u.2.2 = s.2.2 := by rw [hu, ← t2]; rfl
  clear hu
  have uX : RX r7K 0 0 0 13000 s u := ⟨fun k hk => (uk k (fun w => hk (by rw [w]; decide))).trans (tk k hk), fun q i _ c2 _ _ _ _ => uc q i (fun w => c2 ⟨Or.inr w.1, by omega⟩), ul, fun i => by rw [uc 264 i (fun w => by omega)]; exact d5 i, fun i => by rw [uc 265 i (fun w => by omega)]; exact d6 i⟩
  have uR : RTm own b n W' N T F H S0 G S O 1 0 0 0 13000 0 u := by
    refine ⟨RX_CK hC uX (by decide) (by omega), Lx_eq hL (RX_row uX (by decide)) (RX_row uX (by decide)) (RX_row uX (by decide)), PT_ca hP (fun f _ => by rw [RX_row uX (by decide)]) (fun l h _ _ => RX_CA uX (by omega) (by omega)), u70, by rw [uk 105 (by decide)]; exact t105, by rw [uk 106 (by decide)]; exact t106, by rw [uk 98 (by decide)]; exact t98, by rw [uk 97 (by decide)]; exact t97, by rw [uk 95 (by decide)]; exact t95, by rw [uk 96 (by decide), t96]; exact hhi, by rw [uk 96 (by decide), t96]; omega, by rw [uk 94 (by decide), t94]; exact h94, by rw [uk 93 (by decide), t93]; omega, by omega, by omega, by omega, fun v hv => by omega, hS, by omega⟩
  obtain ⟨e, l, hh, A, k1, k2, k3, k4, k5, k6⟩ := MN_ca (s' := u) hM (by rw [RX_row uX (by decide)]) (by rw [RX_row uX (by decide)]) (fun i _ _ => by rw [RX_row uX (by decide)]) (fun l h _ _ => RX_CA uX (by omega) (by omega))
  have hg0 := (RX_CK hC uX (by decide) (by omega)).2.2.2.2.2.1 0
  have hg1 := (RX_CK hC uX (by decide) (by omega)).2.2.2.2.2.1 1
  have uC : RCx G none 1 0 0 13000 0 0 (u.2.1 265 0).toInt.toNat [] (u.2.1 265 1).toInt.toNat [] u := by
    refine ⟨by omega, ⟨⟨?_, ?_, by decide, fun a A hA => ?_⟩, ⟨?_, ?_, by decide, fun a A hA => ?_⟩⟩, ⟨fun c hc => envS_lt hc, fun c hc => ?_, fun c hc => absurd hc id⟩, fun k A hA => ?_⟩
    · show (u.2.1 265 0).toInt = _
      omega
    · exact u0
    · rw [List.getElem?_nil] at hA
      cases hA
    · show (u.2.1 265 1).toInt = _
      omega
    · exact u1
    · rw [List.getElem?_nil] at hA
      cases hA
    · rw [envS_2 (by omega) (grp_none (Or.inr (by show 0 ≤ _; omega)))]
      exact grp_none (Or.inr (by show 0 ≤ _; omega))
    · cases hA
  have u29 : (u.1 29).toInt = (b : Int) := by rw [uX.1 29 (by decide)]; exact h29
  rw [show (u.1 29).toInt.toNat = b by omega]
  refine ⟨_, rfl, by omega, ?_⟩
  obtain ⟨hTB, hCD, xm, ym, eCm⟩ := hLd
  have uTB : TBr K L W ar kd TN Ls nI b u := TBr_rx uX (by omega) (by decide) hTB
  have ucl : ∀ (i : Nat) (t : Int), Ls[i]? = some t → K t = 6 → ∃ x' y' : Int, 0 ≤ x' ∧ eC K L W ar kd TN Ls (4002 * (b : Int)) (4000 + 6 * (kFn K (Ls.take i) : Int)) (2000 + 6 * (kHd K L (Ls.take i) : Int)) (fnS K L W ar TN Ls i t) A0 A1 u 10 x' y' (f_7 K L false (0, t)).2 (u.2.1 258 (60 * (b : Int) + (kFn K (Ls.take i) : Int)).toNat).toInt := fun i t h1 h6 => by
    obtain ⟨x', y', w1, w2⟩ := hCD i t h1 h6
    refine ⟨x', y', w1, ?_⟩
    rw [RX_lo uX (q := 258) (by decide)]
    exact eC_rx uX (by omega) hA1 w2
  have u96 : u.1 96 = a1 := by rw [uk 96 (by decide)]; exact t96
  have u95 : (u.1 95).toInt = 0 := by rw [uk 95 (by decide)]; exact t95
  have u94 : u.1 94 = s.1 94 := by rw [uk 94 (by decide)]; exact t94
  have u93 : (u.1 93).toInt = 0 := by rw [uk 93 (by decide)]; exact t93
  have u92 : u.1 92 = -1 := by rw [uk 92 (by decide)]; exact t92
  have ulf : lft u = L0 := by
    unfold lft
    rw [u96, u95, u94, hL0, Int.sub_zero]
  have uSC : SCx K L W ar kd TN Ls nI A0 A1 b G mnS 1000 2000 (u.2.1 265 0).toInt.toNat (u.2.1 265 1).toInt.toNat [] [] ([], []) [] 0 0 0 [] [] 0 0 u := by
    refine ⟨⟨uTB, ucl⟩, ⟨⟨⟨⟨by decide, by decide⟩, (fun A hA => by cases hA), fun A hA => by cases hA⟩, ⟨⟨rfl, rfl⟩, Or.inl rfl⟩⟩, ⟨rfl, rfl⟩, by decide, by decide⟩, ⟨(fun v A ps hv => by cases hv), rfl⟩, ⟨⟨by decide, fun k hk => absurd hk (Nat.not_lt_zero _)⟩, fun w => absurd rfl w, rfl⟩, by omega⟩
  have uEC : ECx K L W ar kd TN Ls nI A0 A1 b mnS 1000 2000 10 xm ym mB (e : Int) u := by
    refine ⟨?_, by decide, hmn.1, hmn.2.1, hmn.2.2.1, hmn.2.2.2⟩
    have := eC_rx uX (by omega) hA1 eCm
    rw [← RX_lo uX (q := 259) (by decide), Int.toNat_natCast, k1] at this
    exact this
  refine Tot.imp (RSm_all (own := own) (W' := W') (T := T) (F := F) (S0 := S0) hPR hFO hA1 41 0 rfl 11 u _ 0 _ none l hh e 0 0 _ _ 1 0 0 13000 0 [] [] A mnS 1000 2000 10 xm ym mB ([], []) [] 0 [] [] 0 [lvI] uR uC (fun f hf => by cases hf) k4 k3 hN (by omega) (by omega) k1 (by decide) t70 uSC uEC (by decide)) ?_
  rintro v w ⟨r, vs', cl', N1, rfl, ⟨p1, p2, p3⟩, ⟨p4, p5, p6, p7⟩, p8, p9⟩
  refine ⟨r, rfl, ?_⟩
  rintro s18 rfl s19 rfl
  have kk : ∀ j, ¬ j = 91 → ¬ j = 103 → (sf (sf w 91 r) 103 ((sf w 91 r).1 102)).1 j = w.1 j := fun j k1 k2 => by rw [sf_1, if_neg k2, sf_1, if_neg k1]
  have e103 : (sf (sf w 91 r) 103 ((sf w 91 r).1 102)).1 103 = w.1 102 := rfl
  have e91 : (sf (sf w 91 r) 103 ((sf w 91 r).1 102)).1 91 = r := rfl
  have hX0 : (5, ciE K L W ar kd TN Ls mnS 10 mB ++ [lvI], [], 0, ([], []), [], [], lft u, (u.1 93).toInt, 0) = X0p K L W ar kd TN Ls mB L0 := by
    rw [ulf, u93]
    rfl
  rw [hX0, ulf] at p9
  rw [ulf] at p5
  have h94' : ∀ l', lft w = l' → (w.1 94).toInt = (s.1 94).toInt + (L0 - l') := by
    intro l' hl
    have e1 := p7.1
    have e2 := p7.2
    unfold lft at hl
    rw [e1, u96] at hl
    rw [u94, u95] at e2
    rw [hL0]
    exact mn_94 hl e2
  have h95' : ∀ l', lft w = l' → (w.1 95).toInt = L0 - l' := by
    intro l' hl
    have e2 := p7.2
    rw [u94, u95] at e2
    have e3 := h94' l' hl
    omega
  rcases p9 with ⟨q0, z, z1, z2, z3, z4⟩ | ⟨q0, Y, y1, y2, y3, y4, y5, y6, y7⟩
  · have z4 : PSn ar (fcD K L W ar kd TN Ls) (mvC K L W ar kd TN Ls) N1 (X0p K L W ar kd TN Ls mB L0) (5, [lvI], [.inr z], 0, ([], []), [], vs', lft w, cl', 0) := z4
    refine ⟨r, (0, [], [.inr z], 0, ([], []), [], vs', lft w, cl', 0), N1 + 1, rfl, PSn_tr _ _ _ _ _ z4 (PSn_1 ⟨rfl, by show 1 ≤ 3900; decide, Or.inr (Or.inr (Or.inr (Or.inr (Or.inr (Or.inr ⟨rfl, [], z, rfl, Or.inl ⟨rfl, rfl⟩⟩)))))⟩), by omega, q0.symm, by show ¬ (0 : Int) = 5; decide, e91, ⟨?_, ?_, fun w => by omega, fun w => ?_⟩, fun _ => ⟨vRl_2 (s := w) rfl p2, ?_, z, z1, z2, rfl⟩⟩
    · rw [kk 94 (by decide) (by decide), kk 95 (by decide) (by decide)]
      exact ⟨h94' _ rfl, h95' _ rfl⟩
    · rw [kk 93 (by decide) (by decide)]
      exact p6
    · rw [kk 92 (by decide) (by decide), p8 w, u92]
      decide
    · rw [kk 98 (by decide) (by decide)]
      exact p3
  · refine ⟨r, Y, N1, rfl, y1, by omega, y2, by rw [y2]; exact y3, e91, ⟨?_, ?_, fun w => ?_, fun w => ?_⟩, fun w => absurd w q0⟩
    · rw [kk 94 (by decide) (by decide), kk 95 (by decide) (by decide), y4]
      exact ⟨h94' _ rfl, h95' _ rfl⟩
    · rw [kk 93 (by decide) (by decide), y5]
      exact p6
    · rw [kk 92 (by decide) (by decide)]
      exact y6 w
    · rw [kk 92 (by decide) (by decide), p8 w, u92]
      decide
end ZUS
