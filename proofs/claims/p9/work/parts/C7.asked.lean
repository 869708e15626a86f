/-! ===== asked, fits ===== -/
section QQ
variable {own : Nat → Nat × Nat} {nb n2 N T F H S0 n W S y h : Nat} {G : PG} {s s' : yS}
/-- the world of a question: a program in bank nb, the question's words in bank 2 -/
def QW (own : Nat → Nat × Nat) (nb n2 N T F H S0 : Nat) (G : PG) (n W : Nat) (s : yS) : Prop := CK own nb n2 N T F H S0 G s ∧ Lx 2 n W s ∧ (0 ≤ (s.1 8).toInt ∧ (s.1 8).toInt ≤ 70000) ∧ (s.1 29).toInt = (nb : Int) ∧ (∃ W2 : Nat, (s.2.1 220 nb).toInt = (W2 : Int) ∧ W2 ≤ 2100) ∧ N ≤ 4002 * nb + 2760
def qK : List Nat := [8, 64, 65, 70, 71, 72, 73, 74, 76, 77, 78]
def QF (y h S : Nat) (s s' : yS) : Prop := (∀ k, k ∉ qK → s'.1 k = s.1 k) ∧ (∀ q i, ¬ ((q = 231 ∨ q = 232) ∧ y ≤ i ∧ i < h) → ¬ (q = 264 ∧ (S ≤ i ∧ i < 12310 ∨ 100000 ≤ i)) → q ∉ [265, 266, 267, 268] → s'.2.1 q i = s.2.1 q i) ∧ s'.2.2 = s.2.2 ∧ TYN s' ∧ GC s'
theorem QF_row {q : Nat} (hF : QF y h S s s') (hq : q ∉ [231, 232, 264, 265, 266, 267, 268]) : s'.2.1 q = s.2.1 q := by
  simp only [List.mem_cons, List.not_mem_nil, or_false, not_or] at hq
  funext i
  refine hF.2.1 q i (fun w => by omega) (fun w => by omega) ?_
  simp only [List.mem_cons, List.not_mem_nil, or_false, not_or]
  omega
theorem QF_BK (hF : QF y h S s s') (hy : 8004 ≤ y) (hh : h ≤ 12006) (hS : 8210 ≤ S) : BKF 2 s s' := by
  intro q i hn
  refine hF.2.1 q i (fun w => hn (Or.inl ?_)) (fun w => hn (Or.inr (Or.inl ⟨w.1, Or.inr ?_⟩))) (fun w => hn (Or.inr (Or.inr ?_)))
  · rcases w.1 with e | e
    · rw [e, show bl 231 = 4002 by decide]; omega
    · rw [e, show bl 232 = 4002 by decide]; omega
  · omega
  · exact (show ∀ q ∈ [265, 266, 267, 268], q ∈ [265, 266, 267, 268, 269] by decide) q w
theorem QW_eq (hQ : QW own nb n2 N T F H S0 G n W s) (hF : QF y h S s s') (hy : 8004 ≤ y) (hS : 8210 ≤ S) (h8 : 0 ≤ (s'.1 8).toInt ∧ (s'.1 8).toInt ≤ 70000) : QW own nb n2 N T F H S0 G n W s' := by
  obtain ⟨c1, c2, c3, c4, c5, c6⟩ := hQ
  have hb := c1.1.1
  have hS0 : S0 ≤ 8210 := z41 c1.2.2.2.2.2.2.2.2.2 hb
  have r : ∀ q, q ∉ [231, 232, 264, 265, 266, 267, 268] → s'.2.1 q = s.2.1 q := fun q hq => QF_row hF hq
  refine ⟨CK_eq c1 ⟨fun t _ _ => ⟨by rw [r 215 (by decide)], by rw [r 217 (by decide)]⟩, fun x _ _ => ⟨⟨by rw [r 221 (by decide)], by rw [r 222 (by decide)], by rw [r 223 (by decide)], by rw [r 224 (by decide)], by rw [r 227 (by decide)], by rw [r 229 (by decide)], fun _ => by rw [r 226 (by decide)], fun _ => by rw [r 230 (by decide)]⟩, by rw [r 225 (by decide)], by rw [r 228 (by decide)]⟩, fun p i hp _ _ => by rw [r p ((show ∀ p ∈ tbR, p ∉ [231, 232, 264, 265, 266, 267, 268] by decide) p hp)]⟩ (fun x x1 x2 _ => ⟨hF.2.1 231 x (fun w => by omega) (fun w => by omega) (by decide), hF.2.1 232 x (fun w => by omega) (fun w => by omega) (by decide)⟩) (fun j hj => hF.2.1 264 j (fun w => by omega) (fun w => by omega) (by decide)) (fun i _ _ => by rw [r 261 (by decide)]) hF.2.2.2.1 hF.2.2.2.2 (by rw [hF.1 75 (by decide)]; exact c1.2.2.2.2.2.2.1), Lx_eq c2 (r 215 (by decide)) (r 216 (by decide)) (r 217 (by decide)), h8, by rw [hF.1 29 (by decide)]; exact c4, by rw [r 220 (by decide)]; exact c5, c6⟩
theorem s_234 {a1 : Int32} (hQ : QW own nb n2 N T F H S0 G n W s) (hY : isY 2 n s 11 h y) (hy : 8004 ≤ y) (hh : h ≤ 12006) (h65 : (s.1 65).toInt = (S : Int)) (hS : 8210 ≤ S) (hS2 : S + (h - y) ≤ 12310) (h1 : a1.toInt = (y : Int)) : Tot 20 234 [.ref 213, .int a1] s (fun v s' => ∃ r : Int32, v = some (.int r) ∧ QF y h S s s' ∧ QW own nb n2 N T F H S0 G n W s' ∧ ∃ S' : Nat, (s'.1 65).toInt = (S' : Int) ∧ S ≤ S' ∧ S' ≤ S + (h - y) ∧ (¬ r.toInt = 0 → (s'.1 64).toInt = 100000 ∧ (s'.1 70).toInt = 0 ∧ NY s' y S (S' - S) ∧ okE G sc0 (seg s' S (S' - S)))) := by
  obtain ⟨c1, c2, c3, c4, c5, c6⟩ := id hQ
  obtain ⟨d1, d2, d3, d4, d5, d6, d7, d8, d9, d10⟩ := id c1
  obtain ⟨hb, hn, hT24, hF60, hH, r33, r52, hA⟩ := id d1
  have g := pgA d1
  rw [d8] at g
  obtain ⟨gT', gF', g3, -⟩ := g
  have hlt := isY_lt hY
  refine t_234 ?_
  unfold w_234_0
  refine Tot.imp (Tot.mono (by omega) (s_206 (d := 0))) ?_
  rintro v s1 ⟨rfl, rfl⟩
  refine ⟨rfl, ?_⟩
  rintro s3 rfl
  have e75 : s.1 29 = s.1 75 := Int32.toInt_inj.mp (by omega)
  obtain ⟨t, ht⟩ : ∃ t, t = sf (sf (sf (sf s 76 (-1)) 77 (-1)) 78 (-1)) 75 ((sf (sf (sf s 76 (-1)) 77 (-1)) 78 (-1)).1 29) := ⟨_, rfl⟩
  rw [← ht]
  have t2 : t.2 = s.2 := by rw [ht]; rfl
  have tk : ∀ k, k ∉ [76, 77, 78] → t.1 k = s.1 k := fun k hk => by
    rw [ht, sf_1]
    by_cases e : k = 75
    · rw [if_pos e, e]
      show s.1 29 = s.1 75
      exact e75
    · rw [if_neg e, sf_1, if_neg (fun w => hk (by rw [w]; decide)), sf_1, if_neg (fun w => hk (by rw [w]; decide)), sf_1, if_neg (fun w => hk (by rw [w]; decide))]
  have t76 : (t.1 76).toInt = -1 := by rw [ht]; rfl
  have t77 : (t.1 77).toInt = -1 := by rw [ht]; rfl
  have t78 : (t.1 78).toInt = -1 := by rw [ht]; rfl
  clear ht
  have tF : QF y h S s t := ⟨fun k hk => tk k (fun w => hk ((show ∀ k ∈ [76, 77, 78], k ∈ qK by decide) k w)), fun q i _ _ _ => by rw [t2], by rw [t2], fun i => by rw [t2]; exact d5 i, fun i => by rw [t2]; exact d6 i⟩
  have tQ := QW_eq hQ tF hy hS (by rw [tk 8 (by decide)]; exact c3)
  have tY : isY 2 n t 11 h y := isY_eq (by rw [t2]) (by rw [t2]) 11 h y (fun _ _ _ => ⟨by rw [t2], by rw [t2], by rw [t2], fun _ => by rw [t2], fun _ => by rw [t2]⟩) hY
  have tR : RI 2 n W nb n2 own N T F H (vE G sc0) (1 : Int32).toInt t := by
    refine ⟨tQ.2.1, tQ.1.1, ⟨Or.inl t77, Or.inl t76, Or.inl t78⟩, tQ.1.2.2.2.2.2.2.1, tQ.1.2.2.2.2.1, tQ.2.2.1, fun c hc => ?_, fun _ => ?_⟩
    · rcases hc with w | ⟨h', k, w1, w2, w3, w4⟩ | ⟨d', k, w1, w2, w3, w4⟩ | ⟨f', k, w1, w2, w3, w4⟩
      · rw [if_pos (by omega)]
        have h6 := (d9.2.1 c (by omega)).1
        have e := (g3 c w).1
        have e' : nT t 236 (24 * nb + c) = gfm G c := by rw [e]; unfold nT; rw [t2]
        rw [e']
        unfold vE
        rw [show (8 * c + gfm G c) / 8 = c by omega, show (8 * c + gfm G c) % 8 = gfm G c by omega]
        exact Or.inl ⟨by omega, rfl⟩
      · omega
      · omega
      · omega
    · obtain ⟨W2, w1, w2⟩ := tQ.2.2.2.2.1
      exact ⟨nb, W2, hb, tQ.2.2.2.1, w1, w2⟩
  refine Tot.imp (Tot.mono (show 13 ≤ 19 by omega) (s_204 11 t a1 1 y h S tR tY hh h1 (by rw [tk 65 (by decide)]; exact h65) (by omega))) ?_
  rintro v s4 ⟨rfl, q1, q2, q3, S', q4, q5, q6, q7⟩
  have tS : (t.1 65).toInt = (S : Int) := by rw [tk 65 (by decide)]; exact h65
  have F4 : QF y h S t s4 := ⟨fun k hk => q1.1 k (fun w => hk ((show ∀ k ∈ [8, 65], k ∈ qK by decide) k w)), fun q i w1 w2 _ => q1.2.1 q i w1 (fun w => w2 ⟨w.1, by omega⟩), q1.2.2, q2, fun i => by rw [RFr_row q1 (by decide)]; exact tQ.1.2.2.2.2.2.1 i⟩
  have trF : ∀ {a b c : yS}, QF y h S a b → QF y h S b c → QF y h S a c := fun h1 h2 => ⟨fun k hk => (h2.1 k hk).trans (h1.1 k hk), fun q i w1 w2 w3 => (h2.2.1 q i w1 w2 w3).trans (h1.2.1 q i w1 w2 w3), h2.2.2.1.trans h1.2.2.1, h2.2.2.2⟩
  have F4' := trF tF F4
  have Q4 := QW_eq hQ F4' hy hS q3
  refine ⟨rfl, fun hne => ?_, fun h40 => ?_⟩
  · unfold w_234_25
    refine ⟨fun _ => ?_, fun w => absurd w hne⟩
    unfold w_234_31
    exact ⟨Or.inl rfl, 0, rfl, F4', Q4, S', q4, q5, q6, fun w => absurd rfl w⟩
  · rintro s6 rfl s7 rfl
    obtain ⟨-, q8⟩ := q7 h40
    obtain ⟨w, hw⟩ : ∃ w, w = sf (sf s4 64 100000) 70 0 := ⟨_, rfl⟩
    rw [← hw]
    have w2 : w.2 = s4.2 := by rw [hw]; rfl
    have wk : ∀ k, ¬ k = 64 → ¬ k = 70 → w.1 k = s4.1 k := fun k k1 k2 => by rw [hw, sf_1, if_neg k2, sf_1, if_neg k1]
    have w64 : (w.1 64).toInt = ((100000 : Nat) : Int) := by rw [hw]; rfl
    have w70 : (w.1 70).toInt = ((0 : Nat) : Int) := by rw [hw]; rfl
    clear hw
    have F5 : QF y h S s4 w := ⟨fun k hk => wk k (fun e => hk (by rw [e]; decide)) (fun e => hk (by rw [e]; decide)), fun q i _ _ _ => by rw [w2], by rw [w2], fun i => by rw [w2]; exact q2 i, fun i => by rw [w2]; exact F4.2.2.2.2 i⟩
    have F5' := trF F4' F5
    have Q5 := QW_eq hQ F5' hy hS (by rw [wk 8 (by decide) (by decide)]; exact q3)
    have WY : isY 2 n w 11 h y := isY_eq (QF_row F5' (by decide)) (QF_row F5' (by decide)) 11 h y (fun _ _ _ => ⟨by rw [QF_row F5' (by decide)], by rw [QF_row F5' (by decide)], by rw [QF_row F5' (by decide)], fun _ => by rw [QF_row F5' (by decide)], fun _ => by rw [QF_row F5' (by decide)]⟩) hY
    have wR : rsv w (vE G sc0) 11 y S (S' - S) := rsv_eq (b := 2) (n := n) (s := s4) (k' := 11) (hi := h) (isY_eq (QF_row F4' (by decide)) (QF_row F4' (by decide)) 11 h y (fun _ _ _ => ⟨by rw [QF_row F4' (by decide)], by rw [QF_row F4' (by decide)], by rw [QF_row F4' (by decide)], fun _ => by rw [QF_row F4' (by decide)], fun _ => by rw [QF_row F4' (by decide)]⟩) hY) (fun x _ _ => ⟨by rw [w2], by rw [w2], by rw [w2], fun _ => by rw [w2]⟩) (fun i _ _ => by rw [w2]) q8
    refine Tot.imp (Tot.mono (show 18 ≤ 19 by omega) (s_211 (own := own) (S0 := S0) (bt := 2) (n2 := n) (W := W) (P := 100000) (E := 0) (by omega) scC_0 (fun x hx => hx) 11 w a1 y h S (S' - S) ⟨Q5.1, Q5.2.1, Q5.2.2.1, w64, by omega, by omega, w70, by omega⟩ WY hh wR (by omega) h1)) ?_
    rintro v s8 ⟨rfl, X8, g8, -⟩
    have F8 : QF y h S w s8 := ⟨fun k hk => X8.1 k (fun e => hk ((show ∀ k ∈ b5K, k ∈ qK by decide) k e)), fun q i _ c2 c3 => X8.2.1 q i (fun e => c2 ⟨e.1, Or.inr e.2⟩) (fun e => c3 (by rcases e.1 with e | e <;> rw [e] <;> decide)) (fun e => c3 (by rcases e.1 with e | e <;> rw [e] <;> decide)), X8.2.2⟩
    have F8' := trF F5' F8
    have Q8 := QW_eq hQ F8' hy hS g8.1
    have s65 : (s8.1 65).toInt = (S' : Int) := by rw [X8.1 65 (by decide), wk 65 (by decide) (by decide)]; exact q4
    refine ⟨rfl, ?_⟩
    unfold w_234_25 w_234_31
    refine ⟨fun _ => ⟨Or.inl rfl, 0, rfl, F8', Q8, S', s65, q5, q6, fun e => absurd rfl e⟩, fun _ => ⟨Or.inr rfl, 1, rfl, F8', Q8, S', s65, q5, q6, fun _ => ⟨by rw [X8.1 64 (by decide)]; exact w64, by rw [X8.1 70 (by decide)]; exact w70, ?_, ?_⟩⟩⟩
    · obtain ⟨n1, n2', n3, n4, -⟩ := id wR
      exact ⟨by omega, by rw [XF_row X8 (by decide)]; exact n1, by rw [XF_row X8 (by decide)]; exact n2', by omega, n4⟩
    · rw [XF_seg X8 (by omega)]
      exact ⟨rsv_F wR, fun x hx => rsv_V wR x hx⟩
end QQ
