/-! ===== signs, words ===== -/
theorem s_156 {d : Nat} {c : Int32} {s : yS} : Tot (d + 1) 156 [.int c] s (fun v s' => s' = s ∧ ∃ x : Int32, v = some (.int x) ∧ ((x.toInt = 1 ∧ isLt c.toInt = true) ∨ (x.toInt = 0 ∧ isLt c.toInt = false))) := by
  refine t_156 ?_
  unfold w_156_0 w_156_6 w_156_12 w_156_14 w_156_15
  have e0 : (0 : Int32).toInt = 0 := by decide
  have e1 : (1 : Int32).toInt = 1 := by decide
  unfold isLt
  grind
theorem s_157 {d : Nat} {c : Int32} {s : yS} : Tot (d + 1) 157 [.int c] s (fun v s' => s' = s ∧ ∃ x : Int32, v = some (.int x) ∧ ((x.toInt = 1 ∧ isDg c.toInt = true) ∨ (x.toInt = 0 ∧ isDg c.toInt = false))) := by
  refine t_157 ?_
  unfold w_157_0 w_157_8 w_157_9
  have e0 : (0 : Int32).toInt = 0 := by decide
  have e1 : (1 : Int32).toInt = 1 := by decide
  unfold isDg
  grind
theorem s_158 {d : Nat} {c : Int32} {s : yS} (hc : 0 ≤ c.toInt ∧ c.toInt ≤ 65535) : Tot (d + 1) 158 [.int c] s (fun v s' => s' = s ∧ ∃ x : Int32, v = some (.int x) ∧ (isLt c.toInt = true ∨ isDg c.toInt = true → 1 ≤ x.toInt ∧ x.toInt ≤ 62)) := by
  refine t_158 ?_
  unfold w_158_0 w_158_23
  have hl : isLt c.toInt = true ∨ isDg c.toInt = true → (97 ≤ c.toInt ∧ c.toInt ≤ 122) ∨ (65 ≤ c.toInt ∧ c.toInt ≤ 90) ∨ (48 ≤ c.toInt ∧ c.toInt ≤ 57) := by
    unfold isLt isDg
    simp only [Bool.or_eq_true, Bool.and_eq_true, decide_eq_true_eq]
    omega
  refine ⟨fun h1 => ⟨fun h2 => ⟨by omega, fun x1 e1 => ⟨by omega, fun x2 e2 => ⟨rfl, x2, rfl, fun q => by have := hl q; omega⟩⟩⟩, fun h2 => ⟨by omega, fun x3 e3 => ⟨by omega, fun x4 e4 => ⟨rfl, x4, rfl, fun q => by have := hl q; omega⟩⟩⟩⟩, fun h1 => ⟨by omega, fun x5 e5 => ⟨by omega, fun x6 e6 => ⟨rfl, x6, rfl, fun q => by have := hl q; omega⟩⟩⟩⟩
theorem s_159 {d : Nat} {c : Int32} {s : yS} : Tot (d + 1) 159 [.int c] s (fun v s' => s' = s ∧ ∃ x : Int32, v = some (.int x)) := by
  refine t_159 ?_
  unfold w_159_0 w_159_27 w_159_30
  grind
theorem s_155 {d : Nat} {x : Int64} {s : yS} (h0 : 0 ≤ (s.1 2).toInt ∧ (s.1 2).toInt ≤ 4000) : Tot (d + 1) 155 [.ref 213, .long x] s (fun v s' => v = none ∧ (0 ≤ (s'.1 2).toInt ∧ (s'.1 2).toInt ≤ 4000) ∧ s'.1 2 = layn x 8 56 (s.1 2) ∧ eqx [2] [214] [] s s') := by
  refine t_155 ?_
  unfold w_155_0 wl_155_2
  refine ⟨fun a1 a3 s' => a1 = x ∧ (0 ≤ (s'.1 2).toInt ∧ (s'.1 2).toInt ≤ 4000) ∧ eqx [2] [214] [] s s' ∧ ∃ k : Nat, a3.toInt = 8 * (k : Int) - 8 ∧ k ≤ 8 ∧ layn x k a3 (s'.1 2) = layn x 8 56 (s.1 2), fun a1 a3 s' => (a3.toInt + 8).toNat, ?_, ?_⟩
  · exact ⟨rfl, h0, eqx_rf, 8, by decide, by decide, rfl⟩
  · rintro a1 a3 s' ⟨rfl, g0, g2, k, g3, g4, g5⟩
    unfold w_155_2 w_155_20 w_155_36
    refine ⟨fun h => ?_, fun h => ?_⟩
    · obtain rfl : k = 0 := by omega
      exact ⟨rfl, g0, g5, g2⟩
    · obtain ⟨j, rfl⟩ : ∃ j, k = j + 1 := ⟨k - 1, by omega⟩
      have g6 : layn a1 j (a3 + (-8)) (layc a1 a3 (s'.1 2)) = layn a1 8 56 (s.1 2) := g5
      obtain ⟨K, hK⟩ : ∃ K : yS → Prop, K = fun s'' => ((-2147483648 ≤ a3.toInt + (-8) ∧ a3.toInt + (-8) ≤ 2147483647) ∧ (∀ x1 : Int32, x1.toInt = a3.toInt + (-8) → ((a1 = a1 ∧ (0 ≤ (s''.1 2).toInt ∧ (s''.1 2).toInt ≤ 4000) ∧ eqx [2] [214] [] s s'' ∧ ∃ k : Nat, x1.toInt = 8 * (k : Int) - 8 ∧ k ≤ 8 ∧ layn a1 k x1 (s''.1 2) = layn a1 8 56 (s.1 2)) ∧ (x1.toInt + 8).toNat < (a3.toInt + 8).toNat))) := ⟨_, rfl⟩
      have st : ∀ s'' : yS, s''.1 2 = layc a1 a3 (s'.1 2) → (0 ≤ (s''.1 2).toInt ∧ (s''.1 2).toInt ≤ 4000) → eqx [2] [214] [] s s'' → K s'' := by
        intro s'' e1 e2 e4
        rw [hK]
        refine ⟨by omega, fun x1 hx1 => ?_⟩
        have e5 : x1 = a3 + (-8) := Int32.toInt_inj.mp (by rw [hx1, i_add rfl (show (-8 : Int32).toInt = -8 by decide) (by omega)])
        exact ⟨⟨rfl, e2, e4, j, by omega, by omega, by rw [e5, e1]; exact g6⟩, by omega⟩
      generalize hc : ((Int64.toInt32 (a1 >>> ((a3 : Int32).toInt64 &&& 63))) &&& 255) = c at *
      have lc : layc a1 a3 (s'.1 2) = if (c.toInt = 10 ∨ (¬ c.toInt < 32 ∧ ¬ 126 < c.toInt)) ∧ ¬ 4000 ≤ (s'.1 2).toInt then s'.1 2 + 1 else s'.1 2 := by
        unfold layc
        rw [hc]
      have no : ¬ ((c.toInt = 10 ∨ (¬ c.toInt < 32 ∧ ¬ 126 < c.toInt)) ∧ ¬ 4000 ≤ (s'.1 2).toInt) → K s' := fun q => st s' (by rw [lc, if_neg q]) g0 g2
      have yes : (c.toInt = 10 ∨ (¬ c.toInt < 32 ∧ ¬ 126 < c.toInt)) → (4000 ≤ (s'.1 2).toInt → K s') ∧ (¬ (4000 ≤ (s'.1 2).toInt) → (0 ≤ (s'.1 2).toInt ∧ (s'.1 2).toInt < 4000) ∧ (∀ s1, s1 = sa s' 214 (s'.1 2).toInt.toNat c → (-2147483648 ≤ (s1.1 2).toInt + 1 ∧ (s1.1 2).toInt + 1 ≤ 2147483647) ∧ (∀ x2 : Int32, x2.toInt = (s1.1 2).toInt + 1 → ∀ s3, s3 = sf s1 2 x2 → K s3))) := by
        intro q
        refine ⟨fun h4 => no (fun h5 => h5.2 h4), fun h4 => ⟨by omega, ?_⟩⟩
        rintro s1 rfl
        refine ⟨by show _ ≤ (s'.1 2).toInt + 1 ∧ (s'.1 2).toInt + 1 ≤ _; omega, ?_⟩
        rintro x2 hx2 s3 rfl
        have hx2 : x2.toInt = (s'.1 2).toInt + 1 := hx2
        refine st _ ?_ (by show 0 ≤ x2.toInt ∧ x2.toInt ≤ 4000; omega) (eqx_sf (eqx_sa g2 (by decide)) (by decide))
        show x2 = _
        rw [lc, if_pos ⟨q, h4⟩]
        exact Int32.toInt_inj.mp (by rw [hx2, i_add rfl (show (1 : Int32).toInt = 1 by decide) (by omega)])
      subst hK
      exact ⟨fun q => yes (Or.inl q), fun q => ⟨fun q2 => no (fun h5 => h5.1.elim q (fun h6 => h6.1 q2)), fun q2 => ⟨fun q3 => no (fun h5 => h5.1.elim q (fun h6 => h6.2 q3)), fun q3 => yes (Or.inr ⟨q2, q3⟩)⟩⟩⟩
/-- feed -/
theorem s_154 {d : Nat} {a b c : Int64} {s : yS} (h0 : 0 ≤ (s.1 2).toInt ∧ (s.1 2).toInt ≤ 4000) : Tot (d + 2) 154 [.ref 213, .long a, .long b, .long c] s (fun v s' => v = some (.int (feedn a b c (s.1 2))) ∧ (0 ≤ (s'.1 2).toInt ∧ (s'.1 2).toInt ≤ 4000) ∧ s'.1 2 = feedn a b c (s.1 2) ∧ eqx [0, 2] [214] [] s s') := by
  refine t_154 ?_
  unfold w_154_0
  rintro s1 rfl
  refine Tot.imp (s_155 (s := sf s 0 0) h0) ?_
  rintro v s2 ⟨rfl, a1, a2, a3⟩
  refine ⟨rfl, Tot.imp (s_155 a1) ?_⟩
  rintro v s3 ⟨rfl, b1, b2, b3⟩
  refine ⟨rfl, Tot.imp (s_155 b1) ?_⟩
  rintro v s4 ⟨rfl, c1, c2, c3⟩
  have e : s4.1 2 = feedn a b c (s.1 2) := by
    rw [c2, b2, a2]
    rfl
  have m : ∀ k, k ∈ [2] → k ∈ [0, 2] := by decide
  refine ⟨rfl, by rw [e], c1, e, ?_⟩
  exact eqx_tr (eqx_tr (eqx_tr (eqx_sf eqx_rf (by decide)) (eqx_mo a3 m (fun _ h => h) (fun _ h => h))) (eqx_mo b3 m (fun _ h => h) (fun _ h => h))) (eqx_mo c3 m (fun _ h => h) (fun _ h => h))
/-- a word as it is kept: signs packed by 64 -/
def gw (l : Nat → Nat → Int64) (i : Nat) : Prop := 0 < (l 218 i).toInt ∧ (l 218 i).toInt < 18014398509481984 ∧ 0 ≤ (l 219 i).toInt ∧ (l 219 i).toInt < 18014398509481984
def WKp (b W : Nat) (l : Nat → Nat → Int64) : Prop := ∀ w, w < W → gw l (2100 * b + w)
/-- the words of the other banks stay -/
def LFr (b : Nat) (l l' : Nat → Nat → Int64) : Prop := ∀ q i, ¬ (2100 * b ≤ i ∧ i < 2100 * b + 2100) → l' q i = l q i
theorem sl_3 {s : yS} {p i q j : Nat} {v : Int64} : (sl s p i v).2.2 q j = if q = p ∧ j = i then v else s.2.2 q j := by
  show (if q = p then vp_updL (s.2.2 p) i v else s.2.2 q) j = _
  by_cases h : q = p
  · subst h
    rw [if_pos rfl]
    unfold vp_updL
    by_cases h2 : j = i
    · rw [if_pos h2, if_pos ⟨rfl, h2⟩]
    · rw [if_neg h2, if_neg (fun w => h2 w.2)]
  · rw [if_neg h, if_neg (fun w => h w.1)]
def p64 : Nat → Int
  | 0 => 1
  | k + 1 => 64 * p64 k
theorem p64_le {k : Nat} (h : k ≤ 9) : p64 k ≤ 18014398509481984 := (show ∀ k, k < 10 → p64 k ≤ 18014398509481984 by decide) k (by omega)
theorem p64_8 {k : Nat} (h : k ≤ 8) : p64 k ≤ 281474976710656 := (show ∀ k, k < 9 → p64 k ≤ 281474976710656 by decide) k (by omega)
theorem l_bm {z : Int} (h : -9223372036854775808 ≤ z ∧ z ≤ 9223372036854775807) : z.bmod (2 ^ 64) = z := Int.bmod_eq_of_le (by omega) (by omega)
/-- one sign more -/
theorem pk1 {a : Int64} {x : Int32} (h0 : 0 ≤ a.toInt) (h1 : a.toInt ≤ 281474976710656) (h2 : 1 ≤ x.toInt ∧ x.toInt ≤ 62) : ((64 * a) + (Int32.toInt64 x)).toInt = 64 * a.toInt + x.toInt := by
  rw [Int64.toInt_add, Int64.toInt_mul, Int32.toInt_toInt64, show (64 : Int64).toInt = 64 by decide]
  rw [l_bm (z := 64 * a.toInt) (by omega), l_bm (by omega)]
/-- a row of k signs, packed -/
def pkd (k : Nat) (a : Int64) : Prop := 0 ≤ a.toInt ∧ a.toInt < p64 k ∧ (1 ≤ k → 0 < a.toInt)
theorem pkd_0 : pkd 0 0 := ⟨by decide, by decide, fun h => by omega⟩
theorem pkd_1 {k : Nat} {a : Int64} {x : Int32} (h : pkd k a) (hk : k ≤ 8) (h2 : 1 ≤ x.toInt ∧ x.toInt ≤ 62) : pkd (k + 1) ((64 * a) + (Int32.toInt64 x)) := by
  obtain ⟨h3, h4, h5⟩ := h
  have := p64_8 hk
  have e := pk1 (x := x) h3 (by omega) h2
  refine ⟨by omega, ?_, fun _ => by omega⟩
  show _ < 64 * p64 k
  omega
/-- wordOf: the words of a bank grow by one at most -/
theorem s_160 {d b W : Nat} {x y : Int64} {s : yS} (hb : b < 3) (e9 : (s.1 9).toInt = (b : Int)) (hW : (s.2.1 220 b).toInt = (W : Int)) (hW2 : W < 2100) : Tot (d + 1) 160 [.ref 213, .long x, .long y] s (fun v s' => ∃ r : Int32, v = some (.int r) ∧ s'.1 = s.1 ∧ (∀ p, p ≠ 220 → s'.2.1 p = s.2.1 p) ∧ (∀ q, q ≠ b → s'.2.1 220 q = s.2.1 220 q) ∧ 0 ≤ r.toInt ∧ r.toInt < (s'.2.1 220 b).toInt ∧ ((s'.2.1 220 b).toInt = W ∨ (s'.2.1 220 b).toInt = W + 1) ∧ LFr b s.2.2 s'.2.2 ∧ (0 < x.toInt ∧ x.toInt < 18014398509481984 ∧ 0 ≤ y.toInt ∧ y.toInt < 18014398509481984 → WKp b W s.2.2 → ∀ W' : Nat, (s'.2.1 220 b).toInt = (W' : Int) → WKp b W' s'.2.2)) := by
  have eb : (b : Int).toNat = b := by omega
  refine t_160 ?_
  unfold w_160_0 wl_160_7
  refine ⟨by omega, fun x1 hx1 => ?_⟩
  refine ⟨fun a1 a3 a5 a6 s' => s' = s ∧ a1 = x ∧ a3 = y ∧ a5.toInt = 2100 * (b : Int) ∧ 0 ≤ a6.toInt ∧ a6.toInt ≤ W, fun a1 a3 a5 a6 s' => (2100 - a6.toInt).toNat, ⟨rfl, rfl, rfl, by omega, by decide, by show (0 : Int32).toInt ≤ _; rw [show (0 : Int32).toInt = 0 by decide]; omega⟩, ?_⟩
  rintro a1 a3 a5 a6 s' ⟨rfl, e1, e3, h5, h6, h7⟩
  have e1 := e1.symm
  have e3 := e3.symm
  subst e1 e3
  unfold w_160_7 w_160_34
  rw [e9, eb, hW]
  refine ⟨by omega, fun h8 => ?_, fun h8 => ?_⟩
  · refine ⟨by omega, by omega, fun x2 hx2 => ⟨by omega, ?_⟩⟩
    rintro s1 rfl
    simp only [sl_1, sl_2]
    rw [e9, eb, hW]
    refine ⟨by omega, by omega, fun x4 hx4 => ⟨by omega, ?_⟩⟩
    rintro s2 rfl
    simp only [sl_1, sl_2]
    rw [e9, eb, hW]
    refine ⟨by omega, by omega, fun x6 hx6 => ⟨by omega, ?_⟩⟩
    rintro s3 rfl
    simp only [sl_1, sl_2, sa_1]
    rw [e9, eb]
    have g : (sa (sl (sl s' 218 x2.toInt.toNat x) 219 x4.toInt.toNat y) 220 b x6).2.1 220 b = x6 := by rw [sa_2, if_pos ⟨rfl, rfl⟩]
    rw [g]
    refine ⟨by omega, by omega, fun x8 hx8 => ⟨x8, rfl, trivial, fun p hp => ?_, fun q hq => ?_, by omega, by omega, by omega, fun q i hi => ?_, fun hg hK W' hW' => ?_⟩⟩
    · funext j
      rw [sa_2, if_neg (fun e => hp e.1)]
      rfl
    · rw [sa_2, if_neg (fun e => hq e.2)]
      rfl
    · show (sl (sl s' 218 x2.toInt.toNat x) 219 x4.toInt.toNat y).2.2 q i = _
      rw [sl_3, if_neg (fun e => hi (by omega)), sl_3, if_neg (fun e => hi (by omega))]
    · intro w hw
      show gw (sl (sl s' 218 x2.toInt.toNat x) 219 x4.toInt.toNat y).2.2 (2100 * b + w)
      unfold gw
      rw [sl_3, sl_3, sl_3, sl_3, if_neg (fun e => by omega), if_neg (c := (219 : Nat) = 218 ∧ _) (fun e => by omega)]
      by_cases ew : w = W
      · rw [if_pos ⟨rfl, by omega⟩, if_pos ⟨rfl, by omega⟩]
        exact hg
      · rw [if_neg (fun e => by omega), if_neg (fun e => by omega)]
        exact hK w (by omega)
  · have nxt : ∀ x1 : Int32, x1.toInt = a6.toInt + 1 → (s' = s' ∧ x = x ∧ y = y ∧ a5.toInt = 2100 * (b : Int) ∧ 0 ≤ x1.toInt ∧ x1.toInt ≤ (W : Int)) ∧ (2100 - x1.toInt).toNat < (2100 - a6.toInt).toNat := fun x1 hx1 => ⟨⟨rfl, rfl, rfl, h5, by omega, by omega⟩, by omega⟩
    exact ⟨by omega, fun x8 hx8 => ⟨by omega, fun _ => ⟨by omega, nxt⟩, fun _ => ⟨by omega, fun x9 hx9 => ⟨by omega, fun _ => ⟨by omega, nxt⟩, fun _ => ⟨a6, rfl, rfl, fun _ _ => rfl, fun _ _ => rfl, by omega, by rw [hW]; omega, Or.inl hW, fun _ _ _ => rfl, fun _ hK W' hW' => by rw [show W' = W by omega]; exact hK⟩⟩⟩⟩⟩
/-- signs of a kept word so far -/
def kln : Nat → Nat
  | 0 => 0
  | j + 1 => if (xch 0 (nI j)).toInt = 32 then 0 else kln j + 1
/-- keptWords: six words at most -/
theorem s_161 {d b : Nat} {s : yS} (hb : b < 3) (e9 : (s.1 9).toInt = (b : Int)) : Tot (d + 2) 161 [.ref 213] s (fun v s' => v = none ∧ s'.1 = s.1 ∧ (∀ p, p ≠ 220 → s'.2.1 p = s.2.1 p) ∧ (∀ q, q ≠ b → s'.2.1 220 q = s.2.1 220 q) ∧ ∃ W : Nat, (s'.2.1 220 b).toInt = (W : Int) ∧ W ≤ 39 ∧ LFr b s.2.2 s'.2.2 ∧ WKp b W s'.2.2) := by
  have eb : (b : Int).toNat = b := by omega
  refine t_161 ?_
  unfold w_161_0
  rw [e9, eb]
  refine ⟨by omega, ?_⟩
  rintro s1 rfl
  unfold wl_161_10
  refine ⟨fun a1 a3 s' => s'.1 = s.1 ∧ (∀ p, p ≠ 220 → s'.2.1 p = s.2.1 p) ∧ (∀ q, q ≠ b → s'.2.1 220 q = s.2.1 220 q) ∧ 0 ≤ a3.toInt ∧ a3.toInt ≤ 39 ∧ LFr b s.2.2 s'.2.2 ∧ pkd (kln a3.toInt.toNat) a1 ∧ ∃ W : Nat, (s'.2.1 220 b).toInt = (W : Int) ∧ (W : Int) ≤ a3.toInt ∧ WKp b W s'.2.2, fun a1 a3 s' => (39 - a3.toInt).toNat, ?_, ?_⟩
  · refine ⟨rfl, fun p hp => ?_, fun q hq => ?_, by decide, by decide, fun _ _ _ => rfl, pkd_0, 0, ?_, by decide, fun w hw => by omega⟩
    · funext j
      rw [sa_2, if_neg (fun e => hp e.1)]
    · rw [sa_2, if_neg (fun e => hq e.2)]
    · rw [sa_2, if_pos ⟨rfl, rfl⟩]
      decide
  · rintro a1 a3 s' ⟨h1, h2, h3, h4, h5, hL, hk, W, h6, h7, hK⟩
    unfold w_161_10 w_161_37
    refine ⟨fun h => ⟨rfl, h1, h2, h3, W, h6, by omega, hL, hK⟩, fun h => ⟨by omega, fun hn => ?_, fun hs => ?_⟩⟩
    · obtain ⟨j, j1, rfl, j2⟩ := i_nat (x := a3) rfl h4
      have h9 : ∀ j, j < 39 → 0 ≤ (xch 0 (nI j)).toInt ∧ (xch 0 (nI j)).toInt ≤ 65535 ∧ (¬ (xch 0 (nI j)).toInt = 32 → isLt (xch 0 (nI j)).toInt = true) ∧ kln j ≤ 8 + (if (xch 0 (nI j)).toInt = 32 then 1 else 0) := by decide +kernel
      have h9 := h9 j (by omega)
      rw [if_neg hn] at h9
      refine Tot.imp (s_158 ⟨h9.1, h9.2.1⟩) ?_
      rintro v s2 ⟨rfl, r, rfl, hr⟩
      have hr := hr (Or.inl (h9.2.2.1 hn))
      refine ⟨r, rfl, by omega, fun x1 hx1 => ⟨⟨h1, h2, h3, by omega, by omega, hL, ?_, W, h6, by omega, hK⟩, by show (39 - x1.toInt).toNat < (39 - (nI j).toInt).toNat; omega⟩⟩
      rw [show (nI j).toInt.toNat = j by omega] at hk
      rw [show x1.toInt.toNat = j + 1 by omega]
      show pkd (if (xch 0 (nI j)).toInt = 32 then 0 else kln j + 1) _
      rw [if_neg hn]
      exact pkd_1 hk (by omega) hr
    · obtain ⟨j, j1, rfl, j2⟩ := i_nat (x := a3) rfl h4
      have h9 : ∀ j, j < 39 → (xch 0 (nI j)).toInt = 32 → 1 ≤ kln j ∧ kln j ≤ 9 := by decide +kernel
      have h9 := h9 j (by omega) hs
      rw [show (nI j).toInt.toNat = j by omega] at hk
      refine Tot.imp (s_160 hb (by rw [h1]; exact e9) h6 (by omega)) ?_
      rintro v s2 ⟨r, rfl, g1, g2, g3, -, -, g4, g5, g6⟩
      have g6 := g6 ⟨hk.2.2 h9.1, by have := hk.2.1; have := p64_le h9.2; omega, by decide, by decide⟩ hK
      refine ⟨r, rfl, by omega, fun x1 hx1 => ⟨⟨g1.trans h1, fun p hp => (g2 p hp).trans (h2 p hp), fun q hq => (g3 q hq).trans (h3 q hq), by omega, by omega, fun q i hi => (g5 q i hi).trans (hL q i hi), ?_, ?_⟩, by show (39 - x1.toInt).toNat < (39 - (nI j).toInt).toNat; omega⟩⟩
      · rw [show x1.toInt.toNat = j + 1 by omega]
        show pkd (if (xch 0 (nI j)).toInt = 32 then 0 else kln j + 1) _
        rw [if_pos hs]
        exact pkd_0
      · rcases g4 with g4 | g4
        · exact ⟨W, g4, by omega, g6 W g4⟩
        · exact ⟨W + 1, by rw [g4]; rfl, by omega, g6 (W + 1) (by rw [g4]; rfl)⟩
