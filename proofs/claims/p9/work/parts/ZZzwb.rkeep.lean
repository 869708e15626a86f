/-! ===== the reference: what its calls leave of a loaded program (rk_268: wip/p5/mkrk.py) ===== -/
/-- the fields of a loaded program, of a run -/
def RK5 (s s' : yS) : Prop := s'.1 29 = s.1 29 ∧ s'.1 90 = s.1 90 ∧ s'.1 92 = s.1 92 ∧ s'.1 93 = s.1 93 ∧ s'.1 94 = s.1 94 ∧ s'.1 95 = s.1 95
/-- they stay, and both banks do -/
def RKq (s s' : yS) : Prop := RK5 s s' ∧ (∀ nb : Nat, nb < 2 → s'.2.1 233 nb = s.2.1 233 nb ∧ s'.2.1 252 nb = s.2.1 252 nb) ∧ ∀ nb : Nat, nb < 2 → RWel s 0 [40000, 40008, 40016, 40024, 40032, 40040] → RFb (nb : Int) s s'
section ZWB
variable {s s' : yS}
/-- the counts of a bank stay where another was touched -/
theorem bk1 {b' nb : Nat} (hn : nb < 2) (hb : b' < 3) (hne : ¬ b' = nb) (hF : BKF b' s s') : s'.2.1 233 nb = s.2.1 233 nb ∧ s'.2.1 252 nb = s.2.1 252 nb := by
  have key : ∀ q, bl q = 1 → ¬ q = 264 → q ∉ [265, 266, 267, 268, 269] → s'.2.1 q nb = s.2.1 q nb := fun q e1 e2 e3 => hF q nb (by
    rintro (w | w | w)
    · rw [e1] at w
      omega
    · exact e2 w.1
    · exact e3 w)
  exact ⟨key 233 (by decide) (by decide) (by decide), key 252 (by decide) (by decide) (by decide)⟩
theorem RFb_y {b : Int} (hb : 0 ≤ b ∧ b < 2) (r : ∀ q, 215 < q → q < 264 → s'.2.1 q = s.2.1 q) (t : ∀ j : Nat, j < 8210 → s'.2.1 264 j = s.2.1 264 j) (h75 : s'.1 75 = s.1 75) (hw : RWel s 0 [40000, 40008, 40016, 40024, 40032, 40040]) : RFb b s s' := by
  refine ⟨⟨fun q i hq _ _ => by rw [r q (by omega) (by omega)], fun q i hq _ _ => by rw [r q (by omega) (by omega)], fun q i hq _ _ => by rw [r q (by omega) (by omega)], fun q i hq _ _ => by rw [r q (by omega) (by omega)], fun q i hq _ _ => by rw [r q (by omega) (by omega)], fun q i hq _ _ => by rw [r q (by omega) (by omega)], fun q hq => by rw [r q (by omega) (by omega)]⟩, fun j _ j2 => t j (by omega), h75, fun i c hc => ?_⟩
  have hi : i < 6 := (List.getElem?_eq_some_iff.mp hc).1
  have e := hw i c hc
  rw [KI_p (by omega)] at e ⊢
  rw [t _ (by omega)]
  exact e
theorem RKq_y (k : ∀ k, k = 29 ∨ k = 75 ∨ k = 90 ∨ k = 92 ∨ k = 93 ∨ k = 94 ∨ k = 95 → s'.1 k = s.1 k) (r : ∀ q, 215 < q → q < 264 → s'.2.1 q = s.2.1 q) (t : ∀ j : Nat, j < 8210 → s'.2.1 264 j = s.2.1 264 j) : RKq s s' := ⟨⟨k 29 (by decide), k 90 (by decide), k 92 (by decide), k 93 (by decide), k 94 (by decide), k 95 (by decide)⟩, fun nb _ => ⟨by rw [r 233 (by decide) (by decide)], by rw [r 252 (by decide) (by decide)]⟩, fun nb hn hw => RFb_y ⟨by omega, by omega⟩ r t (k 75 (by decide)) hw⟩
theorem RKq_0 : RKq s (sf s 0 0) := RKq_y (fun k hk => by rw [sf_1, if_neg (by omega)]) (fun _ _ _ => rfl) (fun _ _ => rfl)
theorem RKq_e {F A B : List Nat} (h : eqx F A B s s') (hF : ∀ k, k = 29 ∨ k = 75 ∨ k = 90 ∨ k = 92 ∨ k = 93 ∨ k = 94 ∨ k = 95 → k ∉ F) (hA : ∀ q, 215 < q → q < 265 → q ∉ A) : RKq s s' := RKq_y (fun k hk => h.1 k (hF k hk)) (fun q h1 h2 => h.2.1 q (hA q h1 (by omega))) (fun j _ => by rw [h.2.1 264 (hA 264 (by decide) (by decide))])
theorem RKq_j (h : JF nK 0 20000 100000 0 s s') : RKq s s' := RKq_y (fun k hk => h.1 k (by rcases hk with rfl | rfl | rfl | rfl | rfl | rfl | rfl <;> decide)) (fun q h1 h2 => jf_row h (by simp only [List.mem_cons, List.not_mem_nil, or_false, not_or]; omega)) (fun j hj => h.2.1 264 j (fun w => absurd w.1 (by decide)) (fun w => by omega) (fun w => by omega) (fun w => by omega))
theorem RKq_i (h : IF s s') : RKq s s' := by
  have k : ∀ k, k = 29 ∨ k = 75 ∨ k = 90 ∨ k = 92 ∨ k = 93 ∨ k = 94 ∨ k = 95 → s'.1 k = s.1 k := fun k hk => h.2.1 k (by rcases hk with rfl | rfl | rfl | rfl | rfl | rfl | rfl <;> decide)
  refine ⟨⟨k 29 (by decide), k 90 (by decide), k 92 (by decide), k 93 (by decide), k 94 (by decide), k 95 (by decide)⟩, fun nb hn => bk1 hn (b' := 2) (by decide) (by omega) h.1, fun nb hn hw => RFb_k hn (b' := 2) (by decide) (by omega) h.1 (k 75 (by decide)) (fun i c hc => ?_)⟩
  have hi : i < 6 := (List.getElem?_eq_some_iff.mp hc).1
  have e := hw i c hc
  rw [KI_p (by omega)] at e ⊢
  rw [h.2.2.1 _ (by omega)]
  exact e
theorem RKq_r (h : RX r7K 0 0 0 13000 s s') : (s'.1 29 = s.1 29 ∧ s'.1 75 = s.1 75 ∧ s'.1 90 = s.1 90) ∧ (∀ nb : Nat, nb < 2 → s'.2.1 233 nb = s.2.1 233 nb ∧ s'.2.1 252 nb = s.2.1 252 nb) ∧ ∀ nb : Nat, nb < 2 → RWel s 0 [40000, 40008, 40016, 40024, 40032, 40040] → RFb (nb : Int) s s' := ⟨⟨h.1 29 (by decide), h.1 75 (by decide), h.1 90 (by decide)⟩, fun nb _ => ⟨by rw [RX_lo h (show 233 < 264 by decide)], by rw [RX_lo h (show 252 < 264 by decide)]⟩, fun nb hn hw => RFb_y ⟨by omega, by omega⟩ (fun q _ h2 => RX_lo h h2) (fun j hj => RX_ty h (by omega) (by decide)) (h.1 75 (by decide)) hw⟩
theorem rk_154 {a b c : Int64} (h : RIv s) : Tot 2 154 [.ref 213, .long a, .long b, .long c] s (fun _ s' => RKq s s') := by
  obtain ⟨nb, -, -, -, -, a5, -, a7, -⟩ := id h
  refine Tot.imp (s_154 (d := 0) a5) ?_
  rintro v s' ⟨-, -, -, q4⟩
  exact RKq_e q4 (fun k hk => by rcases hk with rfl | rfl | rfl | rfl | rfl | rfl | rfl <;> decide) (fun q h1 h2 w => by rw [List.mem_singleton] at w; omega)
theorem rk_248 : Tot 1 248 [.ref 213] s (fun _ s' => RKq s s') := Tot.imp (s_248 (d := 0)) (fun v s' q => by rw [q.2]; exact RKq_0)
theorem rk_249 : Tot 1 249 [.ref 213] s (fun _ s' => RKq s s') := Tot.imp (s_249 (d := 0)) (fun v s' q => by rw [q.2]; exact RKq_0)
theorem rk_259 {a1 : Int32} (h : RIv s) : Tot 2 259 [.ref 213, .int a1] s (fun _ s' => RKq s s') := by
  obtain ⟨nb, -, -, -, -, -, -, -, a8, -⟩ := id h
  refine Tot.imp (s_259 (d := 0) (R := (s.1 112).toInt.toNat) (by omega) (by omega)) ?_
  rintro v s' ⟨rfl, x, rfl⟩
  exact RKq_0
theorem rk_269 {a1 : Int32} (h : RIv s) : Tot 1 269 [.ref 213, .int a1] s (fun _ s' => RKq s s') := by
  obtain ⟨nb, -, -, -, -, -, -, a7, -⟩ := id h
  refine Tot.imp (s_269 (d := 0) a7.2) ?_
  rintro v s' ⟨⟨x, rfl⟩, rfl⟩
  exact RKq_0
theorem rk_270 {a1 : Int32} (h : RIv s) : Tot 1 270 [.ref 213, .int a1] s (fun _ s' => RKq s s') := by
  obtain ⟨nb, a1', a2, -⟩ := id h
  refine Tot.imp (s_270 (d := 0) (by omega)) ?_
  rintro v s' ⟨⟨x, rfl⟩, rfl⟩
  exact RKq_0
theorem rk_236 (h : RIv s) : Tot 31 236 [.ref 213] s (fun _ s' => RKq s s') := by
  obtain ⟨nb, a1, a2, a3, a4, a5, a6, a7, a8, a9, a10⟩ := id h
  refine Tot.imp (s_236 a1 (fun w => ⟨(a9 w).1, a2, (a9 w).2.1⟩) a5 a3 a4) ?_
  rintro v s' ⟨r, rfl, -, -, hF, h2⟩
  exact RKq_i hF
theorem rk_260 (h : RIv s) : Tot 31 260 [.ref 213] s (fun _ s' => RKq s s') := by
  obtain ⟨nb, a1, a2, a3, a4, a5, a6, a7, a8, a9, a10⟩ := id h
  refine Tot.imp (s_260 a1 (fun w => ⟨(a9 w).1, a2, (a9 w).2.1⟩) a10 a5 a3 a4) ?_
  rintro v s' ⟨r, rfl, -, -, hF, h2⟩
  exact RKq_i hF
set_option maxRecDepth 20000 in
theorem rk_257 (h : RIv s) : Tot 514 257 [.ref 213] s (fun _ s' => RKq s s') := by
  obtain ⟨nb, a1', a2, a3, a4, a5, a6, a7, a8, a9, a10⟩ := id h
  have key : ∀ (own : Nat → Nat × Nat) (b n N T F H S0 : Nat) (G : PG) (S O : Nat), (¬ (s.1 90).toInt = 0 → CK own b n N T F H S0 G s ∧ PT b n N F H G S O s ∧ MN b n N H G S O s ∧ (s.1 29).toInt = (b : Int)) → S ≤ 8210 → N ≤ 12006 → O ≤ 120000 → Tot 514 257 [.ref 213] s (fun _ s' => RKq s s') := by
    intro own b n N T F H S0 G S O hC hS hN hO
    refine Tot.imp (s_257 hC hS hN hO) ?_
    rintro v s' ⟨r, rfl, rfl | ⟨r0, r1, h90, hF, hL⟩⟩
    · exact RKq_0
    · exact RKq_j hF
  by_cases h90 : (s.1 90).toInt = 0
  · exact key (fun _ => (0, 0)) 0 0 0 0 0 0 0 (pg s 0 0) 0 0 (fun w => absurd h90 w) (by omega) (by omega) (by omega)
  · obtain ⟨b1, b2, b3⟩ := a9 h90
    obtain ⟨own, n, W, N, T, F, H, S0, G, S, O, k1, k2, k3, k4, k5, k6, k7, k8, k9⟩ := b1
    exact key own nb n N T F H S0 G S O (fun _ => ⟨k1, k3, k4, a2⟩) (by omega) (by omega) (by omega)
theorem rk_268 {s : yS} {a : Int32} (h : RIv s) : Tot 67 268 [.ref 213, .int a] s (fun _ s' => RKq s s') := by
  have h' := h
  obtain ⟨nb, a1', a2, a3, a4, a5, a6, a7, a8, a9, a10⟩ := h'
  have key : ∀ (b T Vn : Nat), (¬ (s.1 90).toInt = 0 → NMs b T s ∧ TYN s ∧ (∃ A : List Nat, isF 1 A ∧ (∀ x ∈ A, x / 8 < T) ∧ A.length ≤ 60 ∧ (s.2.1 274 b).toInt = (A.length : Int) ∧ ∀ i, i < A.length → (s.2.1 273 (60 * b + i)).toInt = (A.getD i 0 : Nat)) ∧ ((s.1 91).toInt = 0 → VSy b T Vn s ∧ ∃ w : Nat, (s.1 103).toInt = (w : Int) ∧ w < Vn)) → Tot 67 268 [.ref 213, .int a] s (fun _ s' => RKq s s') := by
    intro b T Vn hG
    refine Tot.imp (s_268 hG a7) ?_
    rintro v s' ⟨r, rfl, hx, hs⟩
    exact RKq_e hx (fun k hk => by rcases hk with rfl | rfl | rfl | rfl | rfl | rfl | rfl <;> decide) (fun q h1 h2 w => by unfold vR at w; simp only [List.mem_cons, List.not_mem_nil, or_false] at w; omega)
  by_cases h90 : (s.1 90).toInt = 0
  · exact key 0 0 0 (fun w => absurd h90 w)
  · obtain ⟨b1, b2, b3⟩ := a9 h90
    obtain ⟨own, n, W, N, T, F, H, S0, G, S, O, k1, k2, k3, k4, k5, k6, k7, k8, k9⟩ := b1
    obtain ⟨d1, d2, d3, d4, d5, d6, d7, d8, d9, d10⟩ := k1
    obtain ⟨hb, hn, hT24, hF60, hH, r33, r52, hA⟩ := d1
    have gTe : gT G = T := by
      rw [← d8]
      show (s.2.1 233 nb).toInt.toNat = T
      omega
    have hN : NMs nb T s := by
      refine ⟨a2, hb, hT24, fun c hc => ?_⟩
      obtain ⟨⟨t1, t2, t3, t4⟩, -⟩ := hA.1 c hc
      obtain ⟨l1, l2, l3, l4, l5, l6⟩ := k2
      obtain ⟨i, hi⟩ : ∃ i : Nat, (s.2.1 234 (24 * nb + c)).toInt.toNat = 4002 * nb + i := ⟨(s.2.1 234 (24 * nb + c)).toInt.toNat - 4002 * nb, by omega⟩
      rw [hi] at t3
      have l := l6 i (by omega) t3
      refine ⟨4002 * nb + i, (s.2.1 217 (4002 * nb + i)).toInt.toNat, by omega, by omega, by omega, by omega, k9 _ (by omega)⟩
    obtain ⟨e, l, hh, A, m1, m2, m3, ⟨p, -, m4⟩, m5, m6⟩ := k4
    have ok := wEp_ok m4
    have hAT : ∀ x ∈ A, x / 8 < T := fun x hx => by
      rcases ok.1.2 x hx with w | w
      · rw [← gTe]
        exact w.1
      · exact absurd w.2.2 id
    have main : ∃ A : List Nat, isF 1 A ∧ (∀ x ∈ A, x / 8 < T) ∧ A.length ≤ 60 ∧ (s.2.1 274 nb).toInt = (A.length : Int) ∧ ∀ i, i < A.length → (s.2.1 273 (60 * nb + i)).toInt = (A.getD i 0 : Nat) := ⟨A, ok.1.1, hAT, ok.2, m5, m6⟩
    by_cases h91 : (s.1 91).toInt = 0
    · obtain ⟨T', Vn, w, c1, c2, c3, c4⟩ := b3 h91
      obtain rfl : T' = T := by omega
      exact key nb T' Vn (fun _ => ⟨hN, a3, main, fun _ => ⟨c2.2.1, w, c3, c4⟩⟩)
    · exact key nb T 0 (fun _ => ⟨hN, a3, main, fun w => absurd w h91⟩)
end ZWB
/-! what a program without a fault keeps to -/
section ZWB2
variable {K L W ar kd : Int → Int} {TN Ls : List Int} {n lo hi mB : Int}
theorem FO_of (h : PRm K L W ar kd n lo hi TN Ls) (h0 : ffs (eFs K L W ar kd TN Ls mB) = 0) : FOk K L W ar kd TN Ls n := fun i t h1 h6 => by
  unfold eFs at h0
  have hz := ffs_0.mp h0
  have hq := fnQi_at Ls i 0 t h1 h6
  rw [Nat.zero_add] at hq
  have hF : fnF K L W ar kd TN Ls i t = 0 := hz _ (List.mem_append_left _ (List.mem_map.mpr ⟨(i, t), List.mem_of_getElem? hq, rfl⟩))
  obtain ⟨⟨hX, hD, hlo, hhi⟩, -⟩ := id h
  obtain ⟨d1, d2, -⟩ := dcC_at Ls i t lo hi hD h1
  have hd2 := (d2 h6).2
  obtain ⟨f1, -, hpe, hlt, hend⟩ := fn_fw (d2 h6).1
  obtain ⟨tE, htE⟩ : ∃ tE, tE = (f_7 K L false (0, t)).2 := ⟨_, rfl⟩
  have ef7 : f_7 K L false (0, t) = (0, tE) := by rw [htE]; exact Prod.ext f1 rfl
  rw [ef7] at hpe hlt hend
  rw [← htE]
  have hnx : nxE K L tE = (p_e K L 10 false (0, tE)).2 := (pe_g 10 (by decide) false tE hpe).2.2
  have htt : t + 2 ≤ tE := by
    have := srtQ_le (srt_fn (h := 0) (show (f_7 K L false (0, t)).1 = 0 by rw [ef7]))
    rw [← htE] at this
    exact this
  have hE : (exE6 K L W ar kd TN Ls (fnS K L W ar TN Ls i t) 10 tE).1 = 0 := by
    unfold fnF at hF
    rw [← htE] at hF
    by_cases q : (exE6 K L W ar kd TN Ls (fnS K L W ar TN Ls i t) 10 tE).1 = 0
    · exact q
    · rw [if_neg q] at hF
      exact hF
  exact ⟨hpe, hE, by omega, by rw [hnx]; omega⟩
theorem dcC_le : ∀ (l : List Int) (lo hi : Int), dcC K L lo hi l → lo ≤ hi
  | [], _, _, h => h
  | t :: l, lo, hi, h => by
    obtain ⟨h1, h2⟩ := h
    by_cases h6 : K t = 6
    · rw [if_pos h6] at h2
      have e := dcC_le l _ _ h2.2
      obtain ⟨f1, -, -, hlt, hend⟩ := fn_fw h2.1
      have e1 : t + 2 ≤ (f_7 K L false (0, t)).2 := srtQ_le (srt_fn (h := 0) f1)
      omega
    · rw [if_neg h6] at h2
      have e := dcC_le l _ _ h2.2
      have e1 : t + 2 ≤ (p_ty K L false (0, t)).2 := srtQ_le (srt_ty (h := 0) h2.1)
      omega
end ZWB2
