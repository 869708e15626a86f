/-! ===== the class: blame, the reader's steps, the machine's, by their contracts ===== -/
theorem ws_ex {P : Nat} (hP : P = 3 ∨ P = 39) {c : List (Nat × Nat × Nat)} {h : xH} (hI : INV h) (hc : ∀ p ∈ c, fld h p.1 p.2.1 = some (.ref p.2.2)) : ∃ sa sk sf sc sz : Int32, wsQ ((82, 3), P, c) h (sa, sk, sf, sc, sz) ∧ 0 ≤ sa.toInt ∧ sa.toInt ≤ 5000 := by
  obtain ⟨sa, a1, a2⟩ := isIf_ok (a := 82) (k := 3) hI (by decide +kernel)
  obtain ⟨sz, z1, -⟩ := isIf_ok (a := 1) (k := 2) hI (by decide +kernel)
  have a3 := a2 0 5000 (by decide +kernel)
  rcases hP with rfl | rfl
  · obtain ⟨sk, k1, -⟩ := isIf_ok (a := 3) (k := 10) hI (by decide +kernel)
    obtain ⟨sf, f1, -⟩ := isIf_ok (a := 3) (k := 14) hI (by decide +kernel)
    obtain ⟨sc, c1, -⟩ := isIf_ok (a := 37) (k := 2) hI (by decide +kernel)
    obtain ⟨so, o1, -⟩ := isIf_ok (a := 39) (k := 10) hI (by decide +kernel)
    exact ⟨sa, sk, sf, sc, sz, ⟨⟨a1, k1, f1, c1, z1, so, o1, Or.inr rfl⟩, hc⟩, a3⟩
  · obtain ⟨sk, k1, -⟩ := isIf_ok (a := 39) (k := 10) hI (by decide +kernel)
    obtain ⟨sf, f1, -⟩ := isIf_ok (a := 39) (k := 14) hI (by decide +kernel)
    obtain ⟨sc, c1, -⟩ := isIf_ok (a := 73) (k := 2) hI (by decide +kernel)
    obtain ⟨so, o1, -⟩ := isIf_ok (a := 3) (k := 10) hI (by decide +kernel)
    exact ⟨sa, sk, sf, sc, sz, ⟨⟨a1, k1, f1, c1, z1, so, o1, Or.inr rfl⟩, hc⟩, a3⟩
theorem K_38 {d : Nat} : CTR (yex (d + 5)) 38 q_38 := by
  intro h vs hI ha
  match vs, ha with
  | [v1, v2, v3], ⟨⟨P, e1, hP⟩, ⟨x, e2, x1, x2⟩, ⟨y, e3, _⟩, _⟩ =>
    subst e1 e2 e3
    obtain ⟨sa, sk, sf, sc, sz, hs, -⟩ := ws_ex (c := []) (in2 hP) hI (fun p hp => absurd hp List.not_mem_nil)
    have key : Tt (d + 5) wbL ((82, 3), P, []) ((82, 3), P, []) 38 [.ref P, .int x, .int y] (sa, sk, sf, sc, sz) (fun v _ => v = none) := by
      rcases in2 hP with rfl | rfl
      · exact t_38_3r a_nil (p_38 x1 x2 (fun f _ => rfl))
      · exact t_38_39r a_nil (p_38 x1 x2 (fun f _ => rfl))
    obtain ⟨v, h', cs, sl, s', q1, -, q3, q4⟩ := key h hI hs
    exact ⟨v, h', cs, sl, q4, q1, q3⟩
/-- the reader's references -/
theorem rdr3 {h : xH} (hI : INV h) : ∃ P T K : Nat, (P = 3 ∨ P = 39) ∧ (T = 4 ∨ T = 40) ∧ (K = 7 ∨ K = 43) ∧ ∀ p ∈ [(82, 0, P), (82, 1, T), (82, 2, K)], fld h p.1 p.2.1 = some (.ref p.2.2) := by
  obtain ⟨-, v0, -, -, e0, P, rfl, hP⟩ := fl_of (a := 82) (k := 0) (K := .inr (.inl [3, 39])) hI (by decide +kernel) (by decide +kernel)
  obtain ⟨-, v1, -, -, e1, T, rfl, hT⟩ := fl_of (a := 82) (k := 1) (K := .inr (.inl [4, 40])) hI (by decide +kernel) (by decide +kernel)
  obtain ⟨-, v2, -, -, e2, K, rfl, hK⟩ := fl_of (a := 82) (k := 2) (K := .inr (.inl [7, 43])) hI (by decide +kernel) (by decide +kernel)
  refine ⟨P, T, K, in2 hP, in2 hT, in2 hK, fun p hp => ?_⟩
  rcases List.mem_cons.mp hp with rfl | hp
  · exact e0
  · rcases List.mem_cons.mp hp with rfl | hp
    · exact e1
    · rcases List.mem_cons.mp hp with rfl | hp
      · exact e2
      · exact absurd hp List.not_mem_nil
theorem K_72 {d : Nat} : CTR (yex (d + 5)) 72 q_72 := by
  intro h vs hI ha
  match vs, ha with
  | [v1, v2], ⟨⟨a, e1, ha⟩, ⟨x, e2, x1, x2⟩, _⟩ =>
    subst e1 e2
    have ha := List.mem_singleton.mp ha
    subst ha
    obtain ⟨P, T, K, hP, hT, hK, hc⟩ := rdr3 hI
    obtain ⟨sa, sk, sf, sc, sz, hs, s1, s2⟩ := ws_ex hP hI hc
    have key : Tt (d + 5) wtL ((82, 3), P, [(82, 0, P), (82, 1, T), (82, 2, K)]) ((82, 3), P, [(82, 0, P), (82, 1, T), (82, 2, K)]) 72 [.ref 82, .int x] (sa, sk, sf, sc, sz) (fun v _ => rOK q_72.2.1 v) := by
      rcases hP with rfl | rfl <;> rcases hT with rfl | rfl <;> rcases hK with rfl | rfl
      · exact t_72_3 a_nil (p_72 (by omega) s1 s2 (fun r a r1 r2 _ _ => ⟨_, rfl, r, rfl, r1, r2⟩))
      · exact t_72_3k a_nil (p_72 (by omega) s1 s2 (fun r a r1 r2 _ _ => ⟨_, rfl, r, rfl, r1, r2⟩))
      · exact t_72_3t a_nil (p_72 (by omega) s1 s2 (fun r a r1 r2 _ _ => ⟨_, rfl, r, rfl, r1, r2⟩))
      · exact t_72_3tk a_nil (p_72 (by omega) s1 s2 (fun r a r1 r2 _ _ => ⟨_, rfl, r, rfl, r1, r2⟩))
      · exact t_72_39TK a_nil (p_72 (by omega) s1 s2 (fun r a r1 r2 _ _ => ⟨_, rfl, r, rfl, r1, r2⟩))
      · exact t_72_39T a_nil (p_72 (by omega) s1 s2 (fun r a r1 r2 _ _ => ⟨_, rfl, r, rfl, r1, r2⟩))
      · exact t_72_39K a_nil (p_72 (by omega) s1 s2 (fun r a r1 r2 _ _ => ⟨_, rfl, r, rfl, r1, r2⟩))
      · exact t_72_39 a_nil (p_72 (by omega) s1 s2 (fun r a r1 r2 _ _ => ⟨_, rfl, r, rfl, r1, r2⟩))
    obtain ⟨v, h', cs, sl, s', q1, -, q3, q4⟩ := key h hI hs
    exact ⟨v, h', cs, sl, q4, q1, q3⟩
theorem K_73 {d : Nat} : CTR (yex (d + 5)) 73 q_73 := by
  intro h vs hI ha
  match vs, ha with
  | [v1, v2], ⟨⟨a, e1, ha⟩, ⟨x, e2, x1, x2⟩, _⟩ =>
    subst e1 e2
    have ha := List.mem_singleton.mp ha
    subst ha
    obtain ⟨P, T, K, hP, hT, hK, hc⟩ := rdr3 hI
    obtain ⟨sa, sk, sf, sc, sz, hs, s1, s2⟩ := ws_ex hP hI hc
    have key : Tt (d + 5) wxL ((82, 3), P, [(82, 0, P), (82, 1, T), (82, 2, K)]) ((82, 3), P, [(82, 0, P), (82, 1, T), (82, 2, K)]) 73 [.ref 82, .int x] (sa, sk, sf, sc, sz) (fun v _ => v = none) := by
      rcases hP with rfl | rfl <;> rcases hT with rfl | rfl <;> rcases hK with rfl | rfl
      · exact t_73_3 a_nil (p_73 s1 s2 (Or.inl (by omega)) (fun a f _ _ _ _ => rfl))
      · exact t_73_3k a_nil (p_73 s1 s2 (Or.inl (by omega)) (fun a f _ _ _ _ => rfl))
      · exact t_73_3t a_nil (p_73 s1 s2 (Or.inl (by omega)) (fun a f _ _ _ _ => rfl))
      · exact t_73_3tk a_nil (p_73 s1 s2 (Or.inl (by omega)) (fun a f _ _ _ _ => rfl))
      · exact t_73_39TK a_nil (p_73 s1 s2 (Or.inl (by omega)) (fun a f _ _ _ _ => rfl))
      · exact t_73_39T a_nil (p_73 s1 s2 (Or.inl (by omega)) (fun a f _ _ _ _ => rfl))
      · exact t_73_39K a_nil (p_73 s1 s2 (Or.inl (by omega)) (fun a f _ _ _ _ => rfl))
      · exact t_73_39 a_nil (p_73 s1 s2 (Or.inl (by omega)) (fun a f _ _ _ _ => rfl))
    obtain ⟨v, h', cs, sl, s', q1, -, q3, q4⟩ := key h hI hs
    exact ⟨v, h', cs, sl, q4, q1, q3⟩
theorem K_74 {d : Nat} : CTR (yex (d + 5)) 74 q_74 := by
  intro h vs hI ha
  match vs, ha with
  | [v1, v2], ⟨⟨a, e1, ha⟩, ⟨x, e2, x1, x2⟩, _⟩ =>
    subst e1 e2
    have ha := List.mem_singleton.mp ha
    subst ha
    obtain ⟨P, T, K, hP, hT, hK, hc⟩ := rdr3 hI
    obtain ⟨sa, sk, sf, sc, sz, hs, s1, s2⟩ := ws_ex hP hI hc
    have key : Tt (d + 5) wxL ((82, 3), P, [(82, 0, P), (82, 1, T), (82, 2, K)]) ((82, 3), P, [(82, 0, P), (82, 1, T), (82, 2, K)]) 74 [.ref 82, .int x] (sa, sk, sf, sc, sz) (fun v _ => v = none) := by
      rcases hP with rfl | rfl <;> rcases hT with rfl | rfl <;> rcases hK with rfl | rfl
      · exact t_74_3 a_nil (p_74 s1 s2 (fun a f _ _ _ => rfl))
      · exact t_74_3k a_nil (p_74 s1 s2 (fun a f _ _ _ => rfl))
      · exact t_74_3t a_nil (p_74 s1 s2 (fun a f _ _ _ => rfl))
      · exact t_74_3tk a_nil (p_74 s1 s2 (fun a f _ _ _ => rfl))
      · exact t_74_39TK a_nil (p_74 s1 s2 (fun a f _ _ _ => rfl))
      · exact t_74_39T a_nil (p_74 s1 s2 (fun a f _ _ _ => rfl))
      · exact t_74_39K a_nil (p_74 s1 s2 (fun a f _ _ _ => rfl))
      · exact t_74_39 a_nil (p_74 s1 s2 (fun a f _ _ _ => rfl))
    obtain ⟨v, h', cs, sl, s', q1, -, q3, q4⟩ := key h hI hs
    exact ⟨v, h', cs, sl, q4, q1, q3⟩
theorem v_EX {P : Nat} (hP : P = 3 ∨ P = 39) {d : Nat} (hd : 5 ≤ d) : EX (Tt d wrL (wk_61 P 1) (wk_61 P 1)) := by
  intro b sa sk sf sc sz Q a1 a2 a3 a4
  rcases hP with rfl | rfl
  · exact leT hd (by decide +kernel) (by decide +kernel) (by decide +kernel) _ _ _ _ (t_73_3 (d := 0) a_nil (p_73 a1 a2 a3 a4))
  · exact leT hd (by decide +kernel) (by decide +kernel) (by decide +kernel) _ _ _ _ (t_73_39 (d := 0) a_nil (p_73 a1 a2 a3 a4))
theorem K_61 {D : Nat} (hD : 10 ≤ D) (hc : ∀ p ∈ s_w61, CTR (yex D) p.1 p.2) : CTR (yex (D + 1)) 61 q_61 := by
  obtain ⟨d', rfl⟩ : ∃ d', D = d' + 4 := ⟨D - 4, by omega⟩
  intro h vs hI ha
  match vs, ha with
  | [v1, v2], ⟨⟨a, e1, ha⟩, ⟨P, e2, hP⟩, _⟩ =>
    subst e1 e2
    have ha := List.mem_singleton.mp ha
    subst ha
    have hP := in2 hP
    obtain ⟨sa, sk, sf, sc, sz, hs, -⟩ := ws_ex (c := []) hP hI (fun p hp => absurd hp List.not_mem_nil)
    have key : ∃ w', Tt (d' + 5) wrL ((82, 3), P, []) w' 61 [.ref 82, .ref P] (sa, sk, sf, sc, sz) (fun v _ => v = none) := by
      have hx := v_EX hP (d := d' + 4) (by omega)
      rcases hP with rfl | rfl
      · exact ⟨_, t_61_3 hc (p_61 hx (fun a f _ => rfl))⟩
      · exact ⟨_, t_61_39 hc (p_61 hx (fun a f _ => rfl))⟩
    obtain ⟨w', key⟩ := key
    obtain ⟨v, h', cs, sl, s', q1, -, q3, q4⟩ := key h hI hs
    exact ⟨v, h', cs, sl, q4, q1, q3⟩
theorem K_19 {D : Nat} (hD : 10 ≤ D) (hc : ∀ p ∈ s_w20, CTR (yex D) p.1 p.2) : CTR (yex (D + 2)) 19 q_19 := by
  obtain ⟨d', rfl⟩ : ∃ d', D = d' + 4 := ⟨D - 4, by omega⟩
  intro h vs hI ha
  match vs, ha with
  | [v1], ⟨⟨a, e1, ha⟩, _⟩ =>
    subst e1
    have ha := List.mem_singleton.mp ha
    subst ha
    obtain ⟨-, v0, -, -, e0, P, rfl, hP⟩ := fl_of (a := 105) (k := 5) (K := .inr (.inl [3, 39])) hI (by decide +kernel) (by decide +kernel)
    have hP := in2 hP
    obtain ⟨sa, sk, sf, sc, sz, hs, -⟩ := ws_ex (c := [(105, 5, P)]) hP hI (fun p hp => by rw [List.mem_singleton.mp hp]; exact e0)
    have key : Tt (d' + 1 + 5) wmL ((82, 3), P, [(105, 5, P)]) ((82, 3), P, [(105, 5, P)]) 19 [.ref 105] (sa, sk, sf, sc, sz) (fun v _ => v = none) := by
      rcases hP with rfl | rfl
      · have hm : MSs (Tt (d' + 5) wmL (wk_19 3 0) (wk_19 3 0)) := fun b sa sk sf sc sz Q h1 h2 => t_20_3 hc (p_20 h1 h2)
        exact t_19_3 (d := d' + 1) a_nil (p_19 hm rfl)
      · have hm : MSs (Tt (d' + 5) wmL (wk_19 39 0) (wk_19 39 0)) := fun b sa sk sf sc sz Q h1 h2 => t_20_39 hc (p_20 h1 h2)
        exact t_19_39 (d := d' + 1) a_nil (p_19 hm rfl)
    obtain ⟨v, h', cs, sl, s', q1, -, q3, q4⟩ := key h hI hs
    exact ⟨v, h', cs, sl, q4, q1, q3⟩
/-- program: whatever the two programs are -/
theorem v_140 {P C D : Nat} (hP : P = 3 ∨ P = 39) (hC : C = 3 ∨ C = 39) (hD : 10 ≤ D) (hE : hcE D) (hc37 : ∀ p ∈ s_w37, CTR (yex D) p.1 p.2) (hc128 : ∀ p ∈ s_w128, CTR (yex D) p.1 p.2) (hc5 : ∀ p ∈ s_w5, CTR (yex D) p.1 p.2) (hc : ∀ p ∈ s_w140, CTR (yex D) p.1 p.2) {sa sk sf sc sz : Int32} {Q : Option Value → sW → Prop} (hq : ∀ r a k f c : Int32, 0 ≤ k.toInt → k.toInt ≤ 1200000000 → Q (some (.int r)) (a, k, f, c, 0)) : Tt (D + 100) wcL ((84, 5), P, [(0, 9, C), (0, 10, P)]) ((84, 5), P, []) 140 [.ref 0] (sa, sk, sf, sc, sz) Q := by
  have q1 := v_BG hP hD hc37
  have q3 := v_TA hP hD hE hc128
  have q4 := v_CK hP hD hE hc5
  have r_3_3 : P = 3 → C = 3 → Tt (D + 100) wcL ((84, 5), P, [(0, 9, C), (0, 10, P)]) ((84, 5), P, []) 140 [.ref 0] (sa, sk, sf, sc, sz) Q := by
    rintro rfl rfl
    have s1 : BG (Tt (D + 93 + 6) wcL (wk_140b 3 0) (wk_140b 3 0)) 3 := BG_le (leT (by omega) (by decide +kernel) (by decide +kernel) (by decide +kernel)) q1
    have s2 : ZL (Tt (D + 93 + 6) wcL (wk_140b 3 0) (wk_140b 3 0)) 3 := v_ZL hP (by omega) (by decide +kernel) (by decide +kernel) (by decide +kernel) (by decide +kernel)
    have s3 : TA (Tt (D + 93 + 6) wcL (wk_140b 3 1) (wk_140b 3 1)) 3 := TA_le (leT (by omega) (by decide +kernel) (by decide +kernel) (by decide +kernel)) q3
    have s4 : CKs (Tt (D + 93 + 6) wcL (wk_140b 3 1) (wk_140b 3 1)) 3 := CKs_le (leT (by omega) (by decide +kernel) (by decide +kernel) (by decide +kernel)) q4
    exact Tt_wk (t_140_3b (d := D + 93) (c_mo hc (by omega)) (p_140 s1 s2 s3 s4 hq)) (by decide +kernel) (by decide +kernel) (by decide +kernel)
  have r_3_39 : P = 3 → C = 39 → Tt (D + 100) wcL ((84, 5), P, [(0, 9, C), (0, 10, P)]) ((84, 5), P, []) 140 [.ref 0] (sa, sk, sf, sc, sz) Q := by
    rintro rfl rfl
    have s1 : BG (Tt (D + 93 + 6) wcL (wk_140a 3 0) (wk_140a 3 0)) 3 := BG_le (leT (by omega) (by decide +kernel) (by decide +kernel) (by decide +kernel)) q1
    have s2 : ZL (Tt (D + 93 + 6) wcL (wk_140a 3 0) (wk_140a 3 0)) 3 := v_ZL hP (by omega) (by decide +kernel) (by decide +kernel) (by decide +kernel) (by decide +kernel)
    have s3 : TA (Tt (D + 93 + 6) wcL (wk_140a 3 1) (wk_140a 3 1)) 3 := TA_le (leT (by omega) (by decide +kernel) (by decide +kernel) (by decide +kernel)) q3
    have s4 : CKs (Tt (D + 93 + 6) wcL (wk_140a 3 1) (wk_140a 3 1)) 3 := CKs_le (leT (by omega) (by decide +kernel) (by decide +kernel) (by decide +kernel)) q4
    exact Tt_wk (t_140_3a (d := D + 93) (c_mo hc (by omega)) (p_140 s1 s2 s3 s4 hq)) (by decide +kernel) (by decide +kernel) (by decide +kernel)
  have r_39_3 : P = 39 → C = 3 → Tt (D + 100) wcL ((84, 5), P, [(0, 9, C), (0, 10, P)]) ((84, 5), P, []) 140 [.ref 0] (sa, sk, sf, sc, sz) Q := by
    rintro rfl rfl
    have s1 : BG (Tt (D + 93 + 6) wcL (wk_140c 39 0) (wk_140c 39 0)) 39 := BG_le (leT (by omega) (by decide +kernel) (by decide +kernel) (by decide +kernel)) q1
    have s2 : ZL (Tt (D + 93 + 6) wcL (wk_140c 39 0) (wk_140c 39 0)) 39 := v_ZL hP (by omega) (by decide +kernel) (by decide +kernel) (by decide +kernel) (by decide +kernel)
    have s3 : TA (Tt (D + 93 + 6) wcL (wk_140c 39 1) (wk_140c 39 1)) 39 := TA_le (leT (by omega) (by decide +kernel) (by decide +kernel) (by decide +kernel)) q3
    have s4 : CKs (Tt (D + 93 + 6) wcL (wk_140c 39 1) (wk_140c 39 1)) 39 := CKs_le (leT (by omega) (by decide +kernel) (by decide +kernel) (by decide +kernel)) q4
    exact Tt_wk (t_140_39c (d := D + 93) (c_mo hc (by omega)) (p_140 s1 s2 s3 s4 hq)) (by decide +kernel) (by decide +kernel) (by decide +kernel)
  have r_39_39 : P = 39 → C = 39 → Tt (D + 100) wcL ((84, 5), P, [(0, 9, C), (0, 10, P)]) ((84, 5), P, []) 140 [.ref 0] (sa, sk, sf, sc, sz) Q := by
    rintro rfl rfl
    have s1 : BG (Tt (D + 93 + 6) wcL (wk_140b 39 0) (wk_140b 39 0)) 39 := BG_le (leT (by omega) (by decide +kernel) (by decide +kernel) (by decide +kernel)) q1
    have s2 : ZL (Tt (D + 93 + 6) wcL (wk_140b 39 0) (wk_140b 39 0)) 39 := v_ZL hP (by omega) (by decide +kernel) (by decide +kernel) (by decide +kernel) (by decide +kernel)
    have s3 : TA (Tt (D + 93 + 6) wcL (wk_140b 39 1) (wk_140b 39 1)) 39 := TA_le (leT (by omega) (by decide +kernel) (by decide +kernel) (by decide +kernel)) q3
    have s4 : CKs (Tt (D + 93 + 6) wcL (wk_140b 39 1) (wk_140b 39 1)) 39 := CKs_le (leT (by omega) (by decide +kernel) (by decide +kernel) (by decide +kernel)) q4
    exact Tt_wk (t_140_39b (d := D + 93) (c_mo hc (by omega)) (p_140 s1 s2 s3 s4 hq)) (by decide +kernel) (by decide +kernel) (by decide +kernel)
  rcases hP with h | h <;> rcases hC with h' | h'
  · exact r_3_3 h h'
  · exact r_3_39 h h'
  · exact r_39_3 h h'
  · exact r_39_39 h h'
