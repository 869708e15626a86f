/-! ===== run ===== -/
section RN
variable {own : Nat → Nat × Nat} {b n W N T F H S0 : Nat} {G : PG} {S O : Nat} {s s' : yS}
/-- the main E, typed; its TYPE is kept -/
def MN (b n N H : Nat) (G : PG) (S O : Nat) (s : yS) : Prop := ∃ (e l h : Nat) (A : List Nat), (s.2.1 259 b).toInt = (e : Int) ∧ 4002 * b ≤ l ∧ h ≤ N ∧ wE G H b n (scX G none) (tVX G none) S O s 11 l h e A ∧ (s.2.1 274 b).toInt = (A.length : Int) ∧ ∀ i, i < A.length → (s.2.1 273 (60 * b + i)).toInt = (A.getD i 0 : Nat)
theorem PT_ca (h : PT b n N F H G S O s) (h58 : ∀ f, f < F → s'.2.1 258 (60 * b + f) = s.2.1 258 (60 * b + f)) (hc : ∀ l h, 4002 * b ≤ l → h ≤ N → CA b n l h S O s s') : PT b n N F H G S O s' := by
  intro f hf
  obtain ⟨e, l, hh, A, k1, k2, k3, k4, k5⟩ := h f hf
  exact ⟨e, l, hh, A, by rw [h58 f hf]; exact k1, k2, k3, wE_eq (Nat.le_refl _) (Nat.le_refl _) (hc l hh k2 k3) k4, k5⟩
theorem MN_ca (h : MN b n N H G S O s) (h59 : s'.2.1 259 b = s.2.1 259 b) (h74 : s'.2.1 274 b = s.2.1 274 b) (h73 : ∀ i, 60 * b ≤ i → i < 60 * (b + 1) → s'.2.1 273 i = s.2.1 273 i) (hc : ∀ l h, 4002 * b ≤ l → h ≤ N → CA b n l h S O s s') : MN b n N H G S O s' := by
  obtain ⟨e, l, hh, A, k1, k2, k3, k4, k5, k6⟩ := h
  have hA : A.length ≤ 60 := by
    obtain ⟨p, -, q⟩ := k4
    exact (wEp_ok q).2
  refine ⟨e, l, hh, A, by rw [h59]; exact k1, k2, k3, wE_eq (Nat.le_refl _) (Nat.le_refl _) (hc l hh k2 k3) k4, by rw [h74]; exact k5, fun i hi => ?_⟩
  rw [h73 (60 * b + i) (by omega) (by omega)]
  exact k6 i hi
def r7K : List Nat := 0 :: 70 :: 91 :: 96 :: 103 :: rK
theorem s_247 {a1 : Int32} (hC : CK own b n N T F H S0 G s) (hL : Lx b n W s) (hP : PT b n N F H G S O s) (hM : MN b n N H G S O s) (h29 : (s.1 29).toInt = (b : Int)) (h94 : 0 ≤ (s.1 94).toInt ∧ (s.1 94).toInt ≤ 60000) (hS : S ≤ 8210) (hN : N ≤ 12006) : Tot 1514 247 [.ref 213, .int a1] s (fun v s' => ∃ r : Int32, v = some (.int r) ∧ (s' = sf s 0 0 ∨ (0 ≤ r.toInt ∧ s'.1 91 = r ∧ RX r7K 0 0 0 13000 s s' ∧ ∃ Vn vt L : Nat, RTm own b n W N T F H S0 G S O 1 0 0 Vn vt L s' ∧ (r.toInt = 0 → ∃ w : Nat, (s'.1 103).toInt = (w : Int) ∧ w < Vn)))) := by
  obtain ⟨d1, d2, d3, d4, d5, d6, d7, d8, d9, d10⟩ := id hC
  have hb := d1.1
  refine t_247 ?_
  unfold w_247_0
  rintro s1 rfl
  unfold w_247_12
  refine ⟨fun _ => ⟨-1, rfl, Or.inl rfl⟩, fun h90 => ⟨fun _ => ⟨-1, rfl, Or.inl rfl⟩, fun hlo => ⟨fun hhi => ?_, fun _ => ⟨-1, rfl, Or.inl rfl⟩⟩⟩⟩
  rintro s2 rfl s3 rfl s4 rfl s5 rfl s6 rfl s7 rfl s8 rfl s9 rfl s10 rfl s11 rfl
  have e75 : s.1 29 = s.1 75 := Int32.toInt_inj.mp (by omega)
  obtain ⟨t, ht⟩ : ∃ t, t = sf (sf (sf (sf (sf (sf (sf (sf (sf (sf (sf s 0 0) 75 ((sf s 0 0).1 29)) 96 a1) 95 0) 98 0) 97 13000) 105 0) 106 0) 93 0) 92 (-1)) 70 0 := ⟨_, rfl⟩
  rw [← ht]
  have t2 : t.2 = s.2 := by rw [ht]; rfl
  have tk : ∀ k, k ∉ r7K → t.1 k = s.1 k := by
    intro k hk
    have hh : ∀ j, j ∈ r7K → ¬ k = j := fun j hj w => hk (by rw [w]; exact hj)
    rw [ht, sf_1, if_neg (hh 70 (by decide)), sf_1, if_neg (hh 92 (by decide)), sf_1, if_neg (hh 93 (by decide)), sf_1, if_neg (hh 106 (by decide)), sf_1, if_neg (hh 105 (by decide)), sf_1, if_neg (hh 97 (by decide)), sf_1, if_neg (hh 98 (by decide)), sf_1, if_neg (hh 95 (by decide)), sf_1, if_neg (hh 96 (by decide)), sf_1]
    by_cases e : k = 75
    · rw [if_pos e, e]
      show s.1 29 = s.1 75
      exact e75
    · rw [if_neg e, sf_1, if_neg (hh 0 (by decide))]
  have t70 : (t.1 70).toInt = ((0 : Nat) : Int) := by rw [ht]; rfl
  have t96 : t.1 96 = a1 := by rw [ht]; rfl
  have t95 : (t.1 95).toInt = ((0 : Nat) : Int) := by rw [ht]; rfl
  have t98 : (t.1 98).toInt = ((0 : Nat) : Int) := by rw [ht]; rfl
  have t97 : (t.1 97).toInt = ((13000 : Nat) : Int) := by rw [ht]; rfl
  have t105 : (t.1 105).toInt = ((0 : Nat) : Int) := by rw [ht]; rfl
  have t106 : (t.1 106).toInt = ((0 : Nat) : Int) := by rw [ht]; rfl
  have t93 : (t.1 93).toInt = 0 := by rw [ht]; rfl
  have t94 : t.1 94 = s.1 94 := by rw [ht]; rfl
  clear ht
  refine Tot.imp (Tot.mono (by omega) (s_188 (d := 0) (E := 0) t70 (by omega))) ?_
  rintro v u ⟨rfl, x, hx, hu⟩
  have uc : ∀ q i, ¬ (q = 266 ∧ i < 2) → u.2.1 q i = s.2.1 q i := fun q i w => by
    rw [hu, ← t2]
    show (sa (sa t 266 (2 * 0) 0) 266 (2 * 0 + 1) 0).2.1 q i = _
    rw [sa_2, if_neg (fun w' => w ⟨w'.1, by omega⟩), sa_2, if_neg (fun w' => w ⟨w'.1, by omega⟩)]
  have u0 : (u.2.1 266 0).toInt = 0 := by
    rw [hu]
    show ((sa (sa t 266 (2 * 0) 0) 266 (2 * 0 + 1) 0).2.1 266 0).toInt = 0
    rw [sa_2, if_neg (fun w => by omega), sa_2, if_pos ⟨rfl, rfl⟩]
    decide
  have u1 : (u.2.1 266 1).toInt = 0 := by
    rw [hu]
    show ((sa (sa t 266 (2 * 0) 0) 266 (2 * 0 + 1) 0).2.1 266 1).toInt = 0
    rw [sa_2, if_pos ⟨rfl, rfl⟩]
    decide
  have uk : ∀ k, ¬ k = 70 → u.1 k = t.1 k := fun k hk => by
    rw [hu, sf_1, if_neg hk]
    rfl
  have u70 : (u.1 70).toInt = ((1 : Nat) : Int) := by
    rw [hu]
    show x.toInt = _
    omega
  have ul : u.2.2 = s.2.2 := by rw [hu, ← t2]; rfl
  clear hu
  have uX : RX r7K 0 0 0 13000 s u := ⟨fun k hk => (uk k (fun w => hk (by rw [w]; decide))).trans (tk k hk), fun q i _ c2 _ _ _ _ => uc q i (fun w => c2 ⟨Or.inr w.1, by omega⟩), ul, fun i => by rw [uc 264 i (fun w => by omega)]; exact d5 i, fun i => by rw [uc 265 i (fun w => by omega)]; exact d6 i⟩
  have uR : RTm own b n W N T F H S0 G S O 1 0 0 0 13000 0 u := by
    refine ⟨RX_CK hC uX (by decide) (by omega), Lx_eq hL (RX_row uX (by decide)) (RX_row uX (by decide)) (RX_row uX (by decide)), PT_ca hP (fun f _ => by rw [RX_row uX (by decide)]) (fun l h _ _ => RX_CA uX (by omega) (by omega)), u70, by rw [uk 105 (by decide)]; exact t105, by rw [uk 106 (by decide)]; exact t106, by rw [uk 98 (by decide)]; exact t98, by rw [uk 97 (by decide)]; exact t97, by rw [uk 95 (by decide)]; exact t95, by rw [uk 96 (by decide), t96]; exact hhi, by rw [uk 96 (by decide), t96]; omega, by rw [uk 94 (by decide), t94]; exact h94, by rw [uk 93 (by decide), t93]; omega, by omega, by omega, by omega, fun v hv => by omega, hS, by omega⟩
  obtain ⟨e, l, hh, A, k1, k2, k3, k4, k5, k6⟩ := MN_ca (s' := u) hM (by rw [RX_row uX (by decide)]) (by rw [RX_row uX (by decide)]) (fun i _ _ => by rw [RX_row uX (by decide)]) (fun l h _ _ => RX_CA uX (by omega) (by omega))
  have hg0 := (RX_CK hC uX (by decide) (by omega)).2.2.2.2.2.1 0
  have hg1 := (RX_CK hC uX (by decide) (by omega)).2.2.2.2.2.1 1
  have uC : RCx G none 1 0 0 13000 0 0 (u.2.1 265 0).toInt.toNat [] (u.2.1 265 1).toInt.toNat [] u := by
    refine ⟨by omega, ⟨⟨?_, ?_, by decide, fun a A hA => ?_⟩, ⟨?_, ?_, by decide, fun a A hA => ?_⟩⟩, ⟨fun c hc => envS_lt hc, fun c hc => ?_, fun c hc => absurd hc id⟩, fun k A hA => ?_⟩
    · show (u.2.1 265 0).toInt = _
      omega
    · exact u0
    · rw [List.getElem?_nil] at hA
      cases hA
    · show (u.2.1 265 1).toInt = _
      omega
    · exact u1
    · rw [List.getElem?_nil] at hA
      cases hA
    · rw [envS_2 (by omega) (grp_none (Or.inr (by show 0 ≤ _; omega)))]
      exact grp_none (Or.inr (by show 0 ≤ _; omega))
    · cases hA
  have u29 : (u.1 29).toInt = (b : Int) := by rw [uX.1 29 (by decide)]; exact h29
  rw [show (u.1 29).toInt.toNat = b by omega]
  refine ⟨_, rfl, by omega, ?_⟩
  refine Tot.imp (REH_all (own := own) (W := W) (T := T) (F := F) (S0 := S0) 41 0 rfl 11 u _ 0 _ none l hh e 0 0 _ _ 1 0 0 13000 0 [] [] A uR uC (fun f hf => by cases hf) k4 k3 hN (by omega) (by omega) k1 (by decide) t70) ?_
  rintro v w ⟨r, rfl, g0, wX, Vn, vt, L, wR, g1, g2, g3, g4⟩
  refine ⟨r, rfl, ?_⟩
  rintro s18 rfl s19 rfl
  obtain ⟨q1, q2, q3, q4, q5, q6, q7, q8, q9, q10, q11, q12, q13, q14, q15, q16, q17, q18, q19⟩ := id wR
  have fX0 : RX [91, 103] 1 0 Vn vt w (sf (sf w 91 r) 103 ((sf w 91 r).1 102)) := RX_sf (RX_sf (RX_rf q1.2.2.2.2.1 q1.2.2.2.2.2.1) (by decide)) (by decide)
  refine ⟨_, rfl, Or.inr ⟨g0, rfl, RX_tr uX (RX_tr (RX_mo wX (ks := r7K) (fun k hk => List.mem_cons_of_mem _ (List.mem_cons_of_mem _ (List.mem_cons_of_mem _ (List.mem_cons_of_mem _ (List.mem_cons_of_mem _ hk))))) (Nat.le_refl _) (Nat.le_refl _) (Nat.le_refl _) (Nat.le_refl _)) fX0 (by decide) (Nat.le_refl _) (Nat.le_refl _) g1 g2) (fun _ w => w) (by omega) (Nat.le_refl _) (Nat.le_refl _) (Nat.le_refl _), Vn, vt, L, RT_rx wR fX0 (by decide) q4 q5 q6 q7 q8 q9 q11 q12 q13 (Nat.le_refl _) (Nat.le_refl _) q16 q19, fun hr => ?_⟩⟩
  obtain ⟨z, z1, z2, -⟩ := g4 hr
  exact ⟨z, z1, z2⟩
end RN
