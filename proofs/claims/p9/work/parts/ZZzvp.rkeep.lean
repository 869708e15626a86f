/-! ===== the reference: what its calls leave of names, of main's TYPE, of the latest run's values, of OUT ===== -/
def RFs (nb : Nat) (s s' : yS) : Prop := (∀ i, 24 * nb ≤ i → i < 24 * nb + 24 → s'.2.1 234 i = s.2.1 234 i ∧ s'.2.1 239 i = s.2.1 239 i) ∧ (∀ i, 4002 * nb ≤ i → i < 4002 * nb + 4002 → s'.2.1 217 i = s.2.1 217 i) ∧ (∀ i, 60 * nb ≤ i → i < 60 * nb + 60 → s'.2.1 273 i = s.2.1 273 i) ∧ s'.2.1 274 nb = s.2.1 274 nb ∧ ∀ q i, 2100 * nb ≤ i → i < 2100 * nb + 2100 → s'.2.2 q i = s.2.2 q i
def RFv (nb : Nat) (s s' : yS) : Prop := (s'.2.1 275 = s.2.1 275 ∧ s'.2.1 276 = s.2.1 276 ∧ s'.2.1 277 = s.2.1 277) ∧ ∀ i, ((10 + 4100 * nb ≤ i ∧ i < 10 + 4100 * (nb + 1)) ∨ (13000 ≤ i ∧ i < 20000)) → s'.2.1 264 i = s.2.1 264 i
def REk (s s' : yS) : Prop := s'.1 29 = s.1 29 ∧ s'.1 90 = s.1 90 ∧ s'.1 91 = s.1 91 ∧ s'.1 103 = s.1 103
/-- all but OUT; of the bank that is loaded -/
def RKo0 (s s' : yS) : Prop := REk s s' ∧ ∀ nb : Nat, nb < 2 → (s.1 29).toInt = (nb : Int) → RFs nb s s' ∧ RFv nb s s'
def RKe0 (s s' : yS) : Prop := RKo0 s s' ∧ s'.1 120 = s.1 120 ∧ s'.2.1 284 = s.2.1 284
/-- what is made -/
def RKm (s s' : yS) : Prop := (s'.1 109 = s.1 109 ∧ s'.1 110 = s.1 110 ∧ s'.1 112 = s.1 112) ∧ s'.2.1 279 = s.2.1 279
def RKo (s s' : yS) : Prop := RKo0 s s' ∧ RKm s s'
def RKe (s s' : yS) : Prop := RKe0 s s' ∧ RKm s s'
theorem RKm_e {s s' : yS} {F A : List Nat} (h : eqx F A [] s s') (hF : ∀ k ∈ [109, 110, 112], k ∉ F) (hA : 279 ∉ A) : RKm s s' := ⟨⟨h.1 109 (hF 109 (by decide)), h.1 110 (hF 110 (by decide)), h.1 112 (hF 112 (by decide))⟩, h.2.1 279 hA⟩
theorem BK_279 {s s' : yS} {b' : Nat} (hF : BKF b' s s') : s'.2.1 279 = s.2.1 279 := funext fun i => hF 279 i (by
  rintro (w | w | w)
  · rw [show bl 279 = 0 by decide] at w
    omega
  · exact absurd w.1 (by decide)
  · revert w
    decide)
section ZYI
variable {s s' : yS}
theorem RF_e {F A : List Nat} {nb : Nat} (h : eqx F A [] s s') (hA : ∀ q ∈ [217, 234, 239, 264, 273, 274, 275, 276, 277], q ∉ A) : RFs nb s s' ∧ RFv nb s s' := by
  have k : ∀ q ∈ [217, 234, 239, 264, 273, 274, 275, 276, 277], s'.2.1 q = s.2.1 q := fun q hq => h.2.1 q (hA q hq)
  exact ⟨⟨fun i _ _ => ⟨by rw [k 234 (by decide)], by rw [k 239 (by decide)]⟩, fun i _ _ => by rw [k 217 (by decide)], fun i _ _ => by rw [k 273 (by decide)], by rw [k 274 (by decide)], fun q i _ _ => by rw [h.2.2 q List.not_mem_nil]⟩, ⟨k 275 (by decide), k 276 (by decide), k 277 (by decide)⟩, fun i _ => by rw [k 264 (by decide)]⟩
theorem RKe_e {F A : List Nat} (h : eqx F A [] s s') (hF : ∀ k ∈ [29, 90, 91, 103, 120, 109, 110, 112], k ∉ F) (hA : ∀ q ∈ [217, 234, 239, 264, 273, 274, 275, 276, 277, 284, 279], q ∉ A) : RKe s s' := ⟨⟨⟨⟨h.1 29 (hF 29 (by decide)), h.1 90 (hF 90 (by decide)), h.1 91 (hF 91 (by decide)), h.1 103 (hF 103 (by decide))⟩, fun nb _ _ => RF_e h (fun q hq => hA q ((show ∀ q ∈ [217, 234, 239, 264, 273, 274, 275, 276, 277], q ∈ [217, 234, 239, 264, 273, 274, 275, 276, 277, 284, 279] by decide) q hq))⟩, h.1 120 (hF 120 (by decide)), h.2.1 284 (hA 284 (by decide))⟩, RKm_e h (fun k hk => hF k ((show ∀ k ∈ [109, 110, 112], k ∈ [29, 90, 91, 103, 120, 109, 110, 112] by decide) k hk)) (hA 279 (by decide))⟩
theorem RKe_0 : RKe s (sf s 0 0) := RKe_e (F := [0]) (A := []) (eqx_sf eqx_rf (by decide)) (by decide) (by decide)
theorem RF_k {b' nb : Nat} (hn : nb < 2) (hb : b' < 3) (hne : ¬ b' = nb) (hF : BKF b' s s') (hL : LFr b' s.2.2 s'.2.2) : RFs nb s s' ∧ RFv nb s s' := by
  have key : ∀ (q N i : Nat), bl q = N → ¬ q = 264 → q ∉ [265, 266, 267, 268, 269] → N * nb ≤ i → i < N * nb + N → s'.2.1 q i = s.2.1 q i := fun q N i e1 e2 e3 i1 i2 => hF q _ (by
    rintro (w | w | w)
    · rw [e1] at w
      have h1 : N * b' ≤ i := w.1
      have h2 : i < N * (b' + 1) := w.2
      rw [Nat.mul_add, Nat.mul_one] at h2
      have hnb : nb = 0 ∨ nb = 1 := by omega
      have hbb : b' = 0 ∨ b' = 1 ∨ b' = 2 := by omega
      rcases hnb with rfl | rfl <;> rcases hbb with rfl | rfl | rfl <;> omega
    · exact e2 w.1
    · exact e3 w)
  have all : ∀ q : Nat, bl q = 0 → ¬ q = 264 → q ∉ [265, 266, 267, 268, 269] → s'.2.1 q = s.2.1 q := fun q e1 e2 e3 => funext fun i => hF q i (by
    rintro (w | w | w)
    · rw [e1] at w
      omega
    · exact e2 w.1
    · exact e3 w)
  refine ⟨⟨fun i i1 i2 => ⟨key 234 24 i (by decide) (by decide) (by decide) i1 i2, key 239 24 i (by decide) (by decide) (by decide) i1 i2⟩, fun i i1 i2 => key 217 4002 i (by decide) (by decide) (by decide) i1 i2, fun i i1 i2 => key 273 60 i (by decide) (by decide) (by decide) i1 i2, key 274 1 nb (by decide) (by decide) (by decide) (by omega) (by omega), fun q i i1 i2 => hL q i (by omega)⟩, ⟨all 275 (by decide) (by decide) (by decide), all 276 (by decide) (by decide) (by decide), all 277 (by decide) (by decide) (by decide)⟩, fun i hi => hF 264 i ?_⟩
  rintro (w | w | w)
  · rw [show bl 264 = 0 by decide] at w
    omega
  · omega
  · revert w
    decide
/-- OUT's words stay under it -/
theorem BK_284 {b' : Nat} (hF : BKF b' s s') : s'.2.1 284 = s.2.1 284 := funext fun i => hF 284 i (by
  rintro (w | w | w)
  · rw [show bl 284 = 0 by decide] at w
    omega
  · exact absurd w.1 (by decide)
  · revert w
    decide)
theorem RKe_i (h : IF s s') : RKe s s' := by
  have k : ∀ k ∈ [29, 90, 91, 103, 120], s'.1 k = s.1 k := fun k hk => h.2.1 k ((show ∀ k ∈ [29, 90, 91, 103, 120], k ∉ iK by decide) k hk)
  have k2 : ∀ k ∈ [109, 110, 112], s'.1 k = s.1 k := fun k hk => h.2.1 k ((show ∀ k ∈ [109, 110, 112], k ∉ iK by decide) k hk)
  exact ⟨⟨⟨⟨k 29 (by decide), k 90 (by decide), k 91 (by decide), k 103 (by decide)⟩, fun nb hn _ => RF_k hn (b' := 2) (by decide) (by omega) h.1 h.2.2.2.2.2⟩, k 120 (by decide), BK_284 h.1⟩, ⟨k2 109 (by decide), k2 110 (by decide), k2 112 (by decide)⟩, BK_279 h.1⟩
theorem RKe_j (h : JF nK 0 20000 100000 0 s s') : RKe0 s s' := by
  have k : ∀ k ∈ [29, 90, 91, 103, 120], s'.1 k = s.1 k := fun k hk => h.1 k ((show ∀ k ∈ [29, 90, 91, 103, 120], k ∉ nK by decide) k hk)
  refine ⟨⟨⟨k 29 (by decide), k 90 (by decide), k 91 (by decide), k 103 (by decide)⟩, fun nb hn _ => ⟨⟨fun i _ _ => ⟨by rw [jf_row h (by decide)], by rw [jf_row h (by decide)]⟩, fun i _ _ => by rw [jf_row h (by decide)], fun i _ _ => by rw [jf_row h (by decide)], by rw [jf_row h (by decide)], fun q i _ _ => by rw [h.2.2.1]⟩, ⟨jf_row h (by decide), jf_row h (by decide), jf_row h (by decide)⟩, fun i hi => h.2.1 264 i (fun w => absurd w.1 (by decide)) (fun w => by omega) (fun w => by omega) (fun w => by omega)⟩⟩, k 120 (by decide), jf_row h (by decide)⟩
theorem RFs_x {nb : Nat} (hn : nb < 2) (h : RX r7K 0 0 0 13000 s s') : RFs nb s s' := ⟨fun i _ _ => ⟨by rw [RX_row h (by decide)], by rw [RX_row h (by decide)]⟩, fun i _ _ => by rw [RX_row h (by decide)], fun i _ _ => by rw [RX_row h (by decide)], by rw [RX_row h (by decide)], fun q i _ _ => by rw [h.2.2.1]⟩
theorem re_154 {a b c : Int64} (h : RIv s) : Tot 2 154 [.ref 213, .long a, .long b, .long c] s (fun _ s' => RKe s s') := by
  obtain ⟨nb, -, -, -, -, a5, -, a7, -⟩ := id h
  refine Tot.imp (s_154 (d := 0) a5) ?_
  rintro v s' ⟨-, -, -, q4⟩
  exact RKe_e q4 (by decide) (by decide)
theorem re_248 : Tot 1 248 [.ref 213] s (fun _ s' => RKe s s') := Tot.imp (s_248 (d := 0)) (fun v s' q => by rw [q.2]; exact RKe_0)
theorem re_249 : Tot 1 249 [.ref 213] s (fun _ s' => RKe s s') := Tot.imp (s_249 (d := 0)) (fun v s' q => by rw [q.2]; exact RKe_0)
theorem re_259 {a1 : Int32} (h : RIv s) : Tot 2 259 [.ref 213, .int a1] s (fun _ s' => RKe s s') := by
  obtain ⟨nb, -, -, -, -, -, -, -, a8, -⟩ := id h
  refine Tot.imp (s_259 (d := 0) (R := (s.1 112).toInt.toNat) (by omega) (by omega)) ?_
  rintro v s' ⟨rfl, x, rfl⟩
  exact RKe_0
theorem re_269 {a1 : Int32} (h : RIv s) : Tot 1 269 [.ref 213, .int a1] s (fun _ s' => RKe s s') := by
  obtain ⟨nb, -, -, -, -, -, -, a7, -⟩ := id h
  refine Tot.imp (s_269 (d := 0) a7.2) ?_
  rintro v s' ⟨⟨x, rfl⟩, rfl⟩
  exact RKe_0
theorem re_270 {a1 : Int32} (h : RIv s) : Tot 1 270 [.ref 213, .int a1] s (fun _ s' => RKe s s') := by
  obtain ⟨nb, a1', a2, -⟩ := id h
  refine Tot.imp (s_270 (d := 0) (by omega)) ?_
  rintro v s' ⟨⟨x, rfl⟩, rfl⟩
  exact RKe_0
theorem re_236 (h : RIv s) : Tot 31 236 [.ref 213] s (fun _ s' => RKe s s') := by
  obtain ⟨nb, a1, a2, a3, a4, a5, a6, a7, a8, a9, a10⟩ := id h
  refine Tot.imp (s_236 a1 (fun w => ⟨(a9 w).1, a2, (a9 w).2.1⟩) a5 a3 a4) ?_
  rintro v s' ⟨r, rfl, -, -, hF, h2⟩
  exact RKe_i hF
theorem re_260 (h : RIv s) : Tot 31 260 [.ref 213] s (fun _ s' => RKe s s') := by
  obtain ⟨nb, a1, a2, a3, a4, a5, a6, a7, a8, a9, a10⟩ := id h
  refine Tot.imp (s_260 a1 (fun w => ⟨(a9 w).1, a2, (a9 w).2.1⟩) a10 a5 a3 a4) ?_
  rintro v s' ⟨r, rfl, -, -, hF, h2⟩
  exact RKe_i hF
set_option maxRecDepth 20000 in
theorem re_257 (h : RIv s) : Tot 514 257 [.ref 213] s (fun _ s' => RKe0 s s') := by
  obtain ⟨nb, a1', a2, a3, a4, a5, a6, a7, a8, a9, a10⟩ := id h
  have key : ∀ (own : Nat → Nat × Nat) (b n N T F H S0 : Nat) (G : PG) (S O : Nat), (¬ (s.1 90).toInt = 0 → CK own b n N T F H S0 G s ∧ PT b n N F H G S O s ∧ MN b n N H G S O s ∧ (s.1 29).toInt = (b : Int)) → S ≤ 8210 → N ≤ 12006 → O ≤ 120000 → Tot 514 257 [.ref 213] s (fun _ s' => RKe0 s s') := by
    intro own b n N T F H S0 G S O hC hS hN hO
    refine Tot.imp (s_257 hC hS hN hO) ?_
    rintro v s' ⟨r, rfl, rfl | ⟨r0, r1, h90, hF, hL⟩⟩
    · exact RKe_0.1
    · exact RKe_j hF
  by_cases h90 : (s.1 90).toInt = 0
  · exact key (fun _ => (0, 0)) 0 0 0 0 0 0 0 (pg s 0 0) 0 0 (fun w => absurd h90 w) (by omega) (by omega) (by omega)
  · obtain ⟨b1, b2, b3⟩ := a9 h90
    obtain ⟨own, n, W, N, T, F, H, S0, G, S, O, k1, k2, k3, k4, k5, k6, k7, k8, k9⟩ := b1
    exact key own nb n N T F H S0 G S O (fun _ => ⟨k1, k3, k4, a2⟩) (by omega) (by omega) (by omega)
/-- names of a loaded program -/
theorem NMs_of {nb : Nat} (h : RIv s) (h29 : (s.1 29).toInt = (nb : Int)) (h90 : ¬ (s.1 90).toInt = 0) : NMs nb (s.2.1 233 nb).toInt.toNat s := by
  obtain ⟨nb', a1', a2, a3, a4, a5, a6, a7, a8, a9, a10⟩ := h
  obtain rfl : nb' = nb := by omega
  obtain ⟨b1, b2, b3⟩ := a9 h90
  obtain ⟨own, n, W, N, T, F, H, S0, G, S, O, k1, k2, k3, k4, k5, k6, k7, k8, k9⟩ := b1
  obtain ⟨d1, d2, d3, d4, d5, d6, d7, d8, d9, d10⟩ := k1
  obtain ⟨hb, hn, hT24, hF60, hH, r33, r52, hA⟩ := d1
  refine ⟨a2, hb, by omega, fun c hc => ?_⟩
  obtain ⟨⟨t1, t2, t3, t4⟩, -⟩ := hA.1 c (by omega)
  obtain ⟨l1, l2, l3, l4, l5, l6⟩ := k2
  obtain ⟨i, hi⟩ : ∃ i : Nat, (s.2.1 234 (24 * nb' + c)).toInt.toNat = 4002 * nb' + i := ⟨(s.2.1 234 (24 * nb' + c)).toInt.toNat - 4002 * nb', by omega⟩
  rw [hi] at t3
  have l := l6 i (by omega) t3
  exact ⟨4002 * nb' + i, (s.2.1 217 (4002 * nb' + i)).toInt.toNat, by omega, by omega, by omega, by omega, k9 _ (by omega)⟩
end ZYI
section ZYI2
theorem re_268 {s : yS} {a : Int32} (h : RIv s) : Tot 67 268 [.ref 213, .int a] s (fun _ s' => RKo s s') := by
  have h' := h
  obtain ⟨nb, a1', a2, a3, a4, a5, a6, a7, a8, a9, a10⟩ := h'
  have key : ∀ (b T Vn : Nat), (¬ (s.1 90).toInt = 0 → NMs b T s ∧ TYN s ∧ (∃ A : List Nat, isF 1 A ∧ (∀ x ∈ A, x / 8 < T) ∧ A.length ≤ 60 ∧ (s.2.1 274 b).toInt = (A.length : Int) ∧ ∀ i, i < A.length → (s.2.1 273 (60 * b + i)).toInt = (A.getD i 0 : Nat)) ∧ ((s.1 91).toInt = 0 → VSy b T Vn s ∧ ∃ w : Nat, (s.1 103).toInt = (w : Int) ∧ w < Vn)) → Tot 67 268 [.ref 213, .int a] s (fun _ s' => RKo s s') := by
    intro b T Vn hG
    refine Tot.imp (s_268 hG a7) ?_
    rintro v s' ⟨r, rfl, hx, hs⟩
    exact ⟨⟨⟨hx.1 29 (by decide), hx.1 90 (by decide), hx.1 91 (by decide), hx.1 103 (by decide)⟩, fun nb _ _ => RF_e hx (by decide)⟩, RKm_e hx (by decide) (by decide)⟩
  by_cases h90 : (s.1 90).toInt = 0
  · exact key 0 0 0 (fun w => absurd h90 w)
  · obtain ⟨b1, b2, b3⟩ := a9 h90
    obtain ⟨own, n, W, N, T, F, H, S0, G, S, O, k1, k2, k3, k4, k5, k6, k7, k8, k9⟩ := b1
    obtain ⟨d1, d2, d3, d4, d5, d6, d7, d8, d9, d10⟩ := k1
    obtain ⟨hb, hn, hT24, hF60, hH, r33, r52, hA⟩ := d1
    have gTe : gT G = T := by
      rw [← d8]
      show (s.2.1 233 nb).toInt.toNat = T
      omega
    have hN : NMs nb T s := by
      refine ⟨a2, hb, hT24, fun c hc => ?_⟩
      obtain ⟨⟨t1, t2, t3, t4⟩, -⟩ := hA.1 c hc
      obtain ⟨l1, l2, l3, l4, l5, l6⟩ := k2
      obtain ⟨i, hi⟩ : ∃ i : Nat, (s.2.1 234 (24 * nb + c)).toInt.toNat = 4002 * nb + i := ⟨(s.2.1 234 (24 * nb + c)).toInt.toNat - 4002 * nb, by omega⟩
      rw [hi] at t3
      have l := l6 i (by omega) t3
      refine ⟨4002 * nb + i, (s.2.1 217 (4002 * nb + i)).toInt.toNat, by omega, by omega, by omega, by omega, k9 _ (by omega)⟩
    obtain ⟨e, l, hh, A, m1, m2, m3, ⟨p, -, m4⟩, m5, m6⟩ := k4
    have ok := wEp_ok m4
    have hAT : ∀ x ∈ A, x / 8 < T := fun x hx => by
      rcases ok.1.2 x hx with w | w
      · rw [← gTe]
        exact w.1
      · exact absurd w.2.2 id
    have main : ∃ A : List Nat, isF 1 A ∧ (∀ x ∈ A, x / 8 < T) ∧ A.length ≤ 60 ∧ (s.2.1 274 nb).toInt = (A.length : Int) ∧ ∀ i, i < A.length → (s.2.1 273 (60 * nb + i)).toInt = (A.getD i 0 : Nat) := ⟨A, ok.1.1, hAT, ok.2, m5, m6⟩
    by_cases h91 : (s.1 91).toInt = 0
    · obtain ⟨T', Vn, w, c1, c2, c3, c4⟩ := b3 h91
      obtain rfl : T' = T := by omega
      exact key nb T' Vn (fun _ => ⟨hN, a3, main, fun _ => ⟨c2.2.1, w, c3, c4⟩⟩)
    · exact key nb T 0 (fun _ => ⟨hN, a3, main, fun w => absurd w h91⟩)
end ZYI2
