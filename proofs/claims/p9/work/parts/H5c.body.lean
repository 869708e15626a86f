/-! ===== the class: E, all bodies, a program, as calls ===== -/
theorem leD {d d' : Nat} {W : List (Nat × Nat)} {w : wW} (hd : d ≤ d') : ∀ j vs s Q, Tt d W w w j vs s Q → Tt d' W w w j vs s Q := fun _ _ _ _ h => Tt.mo hd h
theorem LA_le {T T' : cTy} {w : Int} (h : ∀ j vs s Q, T j vs s Q → T' j vs s Q) (H : LA T w) : LA T' w := fun x sa sk sf sc sz X Q a b c d => h _ _ _ _ (H x sa sk sf sc sz X Q a b c d)
theorem MA_le {T T' : cTy} {w : Int} (h : ∀ j vs s Q, T j vs s Q → T' j vs s Q) (H : MA T w) : MA T' w := fun x' x sa sk sf sc sz X Q a b c d => h _ _ _ _ (H x' x sa sk sf sc sz X Q a b c d)
theorem BA_le {T T' : cTy} {w : Int} (h : ∀ j vs s Q, T j vs s Q → T' j vs s Q) (H : BA T w) : BA T' w := fun x' x sa sk sf sc sz X Q a b c d => h _ _ _ _ (H x' x sa sk sf sc sz X Q a b c d)
theorem VA_le {T T' : cTy} (h : ∀ j vs s Q, T j vs s Q → T' j vs s Q) (H : VA T) : VA T' := fun sa sk sf sc sz Q a b c d => h _ _ _ _ (H sa sk sf sc sz Q a b c d)
theorem FA_le {T T' : cTy} (h : ∀ j vs s Q, T j vs s Q → T' j vs s Q) (H : FA T) : FA T' := fun b1 b2 sa sk sf sc sz Q a b c d => h _ _ _ _ (H b1 b2 sa sk sf sc sz Q a b c d)
/-- all contracts that E's methods ask for -/
def hcE (D : Nat) : Prop := (∀ p ∈ s_w132, CTR (yex D) p.1 p.2) ∧ (∀ p ∈ s_w92, CTR (yex D) p.1 p.2) ∧ (∀ p ∈ s_w83, CTR (yex D) p.1 p.2) ∧ (∀ p ∈ s_w9, CTR (yex D) p.1 p.2) ∧ (∀ p ∈ s_w12, CTR (yex D) p.1 p.2) ∧ (∀ p ∈ s_w6, CTR (yex D) p.1 p.2) ∧ (∀ p ∈ s_w10, CTR (yex D) p.1 p.2) ∧ (∀ p ∈ s_w11, CTR (yex D) p.1 p.2) ∧ (∀ p ∈ s_w14, CTR (yex D) p.1 p.2) ∧ (∀ p ∈ s_w8, CTR (yex D) p.1 p.2) ∧ (∀ p ∈ s_w7, CTR (yex D) p.1 p.2) ∧ (∀ p ∈ s_w131, CTR (yex D) p.1 p.2)
theorem c_mo {D D' : Nat} {S : List (Nat × cSg)} (h : ∀ p ∈ S, CTR (yex D) p.1 p.2) (hd : D ≤ D') : ∀ p ∈ S, CTR (yex D') p.1 p.2 := fun p hp => CTR_mo hd (h p hp)
section BO
theorem v_PT {P : Nat} (hP : P = 3 ∨ P = 39) {D : Nat} (hD : 10 ≤ D) (hE : hcE D) {d : Nat} (hd : D + 20 ≤ d) {w : Int} (hw : 1 ≤ w ∧ w ≤ 10) (hv : VL (Tt d wgL (wk_7 P 0) (wk_7 P 0)) (w + 1)) : PTs (Tt (d + 1) wgL (wk_7 P 0) (wk_7 P 0)) w := by
  obtain ⟨d', rfl⟩ : ∃ d', d = d' + 4 := ⟨d - 4, by omega⟩
  obtain ⟨c132, c92, c83, c9, c12, c6, c10, c11, c14, c8, c7, c131⟩ := hE
  intro b1 b2 b3 b4 b5 x sa sk sf sc sz X Q e hX hp h7 hq
  exact tu_11 hP (c_mo c11 (by omega)) (p_11 (v_38 hP (by omega) (by rcases hP with rfl | rfl <;> decide +kernel)) hv e hw hX hp h7 hq)
theorem v_LA {P : Nat} (hP : P = 3 ∨ P = 39) {D : Nat} (hD : 10 ≤ D) (hE : hcE D) {d : Nat} (hd : D + 20 ≤ d) {w : Int} (hw : 1 ≤ w ∧ w ≤ 10) (hv : PTs (Tt d wgL (wk_7 P 0) (wk_7 P 0)) w) : LA (Tt (d + 1) wgL (wk_7 P 0) (wk_7 P 0)) w := by
  obtain ⟨d', rfl⟩ : ∃ d', d = d' + 4 := ⟨d - 4, by omega⟩
  obtain ⟨c132, c92, c83, c9, c12, c6, c10, c11, c14, c8, c7, c131⟩ := hE
  intro x sa sk sf sc sz X Q e hp hs hq
  exact tu_10 hP (c_mo c10 (by omega)) (p_10 (v_38 hP (by omega) (by rcases hP with rfl | rfl <;> decide +kernel)) (v_59 hP (by omega)) (v_TL hP hD c132 (by omega)) hv e hw hp hs hq)
theorem v_MA {P : Nat} (hP : P = 3 ∨ P = 39) {D : Nat} (hD : 10 ≤ D) (hE : hcE D) {d : Nat} (hd : D + 20 ≤ d) {w : Int} (hw : 1 ≤ w ∧ w ≤ 10) (hv : PTs (Tt d wgL (wk_7 P 0) (wk_7 P 0)) w) : MA (Tt (d + 1) wgL (wk_7 P 0) (wk_7 P 0)) w := by
  obtain ⟨d', rfl⟩ : ∃ d', d = d' + 4 := ⟨d - 4, by omega⟩
  obtain ⟨c132, c92, c83, c9, c12, c6, c10, c11, c14, c8, c7, c131⟩ := hE
  intro b x sa sk sf sc sz X Q e hp hs hq
  exact tu_14 hP (c_mo c14 (by omega)) (p_14 (v_38 hP (by omega) (by rcases hP with rfl | rfl <;> decide +kernel)) (v_59 hP (by omega)) (v_KL hP hD c92 c83 (by omega)) (v_TL hP hD c132 (by omega)) hv e hw hp hs hq)
theorem v_BA {P : Nat} (hP : P = 3 ∨ P = 39) {D : Nat} (hD : 10 ≤ D) (hE : hcE D) {d : Nat} (hd : D + 20 ≤ d) {w : Int} (hw : 1 ≤ w ∧ w ≤ 10) (hv : MA (Tt d wgL (wk_7 P 0) (wk_7 P 0)) w) : BA (Tt (d + 1) wgL (wk_7 P 0) (wk_7 P 0)) w := by
  obtain ⟨d', rfl⟩ : ∃ d', d = d' + 4 := ⟨d - 4, by omega⟩
  obtain ⟨c132, c92, c83, c9, c12, c6, c10, c11, c14, c8, c7, c131⟩ := hE
  intro b x sa sk sf sc sz X Q e hp hs hq
  exact tu_8 hP (c_mo c8 (by omega)) (p_8 (v_38 hP (by omega) (by rcases hP with rfl | rfl <;> decide +kernel)) (v_59 hP (by omega)) (v_TL hP hD c132 (by omega)) (FA_le (leD (by omega)) (v_12 hP hD c12)) hv e hw hp hs hq)
theorem v_VL {P : Nat} (hP : P = 3 ∨ P = 39) {D : Nat} (hD : 10 ≤ D) (hE : hcE D) : ∀ (n : Nat) (w : Int), w + n = 11 → 1 ≤ w → VL (Tt (D + 25 + 5 * n) wgL (wk_7 P 0) (wk_7 P 0)) w := by
  have hE' := hE
  obtain ⟨c132, c92, c83, c9, c12, c6, c10, c11, c14, c8, c7, c131⟩ := hE'
  intro n
  induction n with
  | zero =>
    intro w e h1 x sa sk sf sc sz X Q e1 hp hq
    obtain ⟨d', hd⟩ : ∃ d', D + 24 = d' + 4 := ⟨D + 20, by omega⟩
    rw [show D + 25 + 5 * 0 = d' + 5 by omega]
    exact tu_7 hP (c_mo c7 (by omega)) (p_7 (v_38 hP (by omega) (by rcases hP with rfl | rfl <;> decide +kernel)) (VA_le (leD (by omega)) (v_9 hP hD c9)) (fun q => absurd q (by omega)) (fun q => absurd q (by omega)) e1 (by omega) hp hq)
  | succ n ih =>
    intro w e h1
    have hw : 1 ≤ w ∧ w ≤ 10 := by omega
    have a1 := v_PT hP hD hE (d := D + 25 + 5 * n) (by omega) hw (ih (w + 1) (by omega) (by omega))
    have a2 := v_LA hP hD hE (by omega) hw a1
    have a3 := v_MA hP hD hE (by omega) hw a1
    have a4 := v_BA hP hD hE (by omega) hw a3
    intro x sa sk sf sc sz X Q e1 hp hq
    obtain ⟨d', hd⟩ : ∃ d', D + 25 + 5 * n + 4 = d' + 4 := ⟨D + 25 + 5 * n, rfl⟩
    rw [show D + 25 + 5 * (n + 1) = d' + 5 by omega]
    exact tu_7 hP (c_mo c7 (by omega)) (p_7 (v_38 hP (by omega) (by rcases hP with rfl | rfl <;> decide +kernel)) (VA_le (leD (by omega)) (v_9 hP hD c9)) (fun _ => LA_le (leD (by omega)) a2) (fun _ => BA_le (leD (by omega)) a4) e1 (by omega) hp hq)
/-- tellAll -/
theorem v_TA {P : Nat} (hP : P = 3 ∨ P = 39) {D : Nat} (hD : 10 ≤ D) (hE : hcE D) (hc : ∀ p ∈ s_w128, CTR (yex D) p.1 p.2) : TA (Tt (D + 20) wdL (wk_128 P 0) (wk_128 P 0)) P := by
  obtain ⟨c132, c92, c83, c9, c12, c6, c10, c11, c14, c8, c7, c131⟩ := hE
  have hs : SLs (Tt (D + 15) wgL (wk_131 P 0) (wk_131 P 0)) := by
    intro b sa sk sf sc sz Q a1 a2 a3 a4
    have ht : TL (Tt (D + 14) wgL (wk_131 P 0) (wk_131 P 0)) 1 := TL_le (leD (by omega)) (v_132 hP hD c132 10 1 (by omega) (by omega))
    exact tu_131 (d := D + 10) hP (c_mo c131 (by omega)) (p_131 (v_38 hP (by omega) (by rcases hP with rfl | rfl <;> decide +kernel)) ht a1 a2 a3 a4)
  intro sa sk sf sc sz Q a1 a2 a3
  have hs' : SLs (Tt (D + 15 + 4) wdL (wk_128 P 1) (wk_128 P 1)) := by
    rcases hP with rfl | rfl
    · exact SLs_le (leT (by omega) (by decide +kernel) (by decide +kernel) (by decide +kernel)) hs
    · exact SLs_le (leT (by omega) (by decide +kernel) (by decide +kernel) (by decide +kernel)) hs
  exact tu_128 (d := D + 15) hP (c_mo hc (by omega)) (p_128 hs' a1 a2 a3)
/-- check -/
theorem v_CK {P : Nat} (hP : P = 3 ∨ P = 39) {D : Nat} (hD : 10 ≤ D) (hE : hcE D) (hc : ∀ p ∈ s_w5, CTR (yex D) p.1 p.2) : CKs (Tt (D + 90) wdL (wk_5 P 0) (wk_5 P 0)) P := by
  have hE' := hE
  obtain ⟨c132, c92, c83, c9, c12, c6, c10, c11, c14, c8, c7, c131⟩ := hE'
  have q1 := v_38 hP (d := 5) (c := (wk_7 P 0).2.2) (by omega) (by rcases hP with rfl | rfl <;> decide +kernel)
  have q2 := v_59 hP (d := 5) (by omega)
  have q3 := v_KL hP hD c92 c83 (d := D + 2) (by omega)
  have q4 := v_6 hP hD c6
  have q5 := v_VL hP hD hE 10 1 (by omega) (by omega)
  intro sa sk sf sc sz Q a1 a2 a3 a4
  have r : BL (Tt (D + 85 + 4) wdL (wk_5 P 1) (wk_5 P 1)) P ∧ CL (Tt (D + 85 + 4) wdL (wk_5 P 1) (wk_5 P 1)) P ∧ KL (Tt (D + 85 + 4) wdL (wk_5 P 1) (wk_5 P 1)) ∧ EF (Tt (D + 85 + 4) wdL (wk_5 P 1) (wk_5 P 1)) ∧ VL (Tt (D + 85 + 4) wdL (wk_5 P 1) (wk_5 P 1)) 1 := by
    rcases hP with rfl | rfl
    · exact ⟨BL_le (leT (by omega) (by decide +kernel) (by decide +kernel) (by decide +kernel)) q1, CL_le (leT (by omega) (by decide +kernel) (by decide +kernel) (by decide +kernel)) q2, KL_le (leT (by omega) (by decide +kernel) (by decide +kernel) (by decide +kernel)) q3, EF_le (leT (by omega) (by decide +kernel) (by decide +kernel) (by decide +kernel)) q4, VL_le (leT (by omega) (by decide +kernel) (by decide +kernel) (by decide +kernel)) q5⟩
    · exact ⟨BL_le (leT (by omega) (by decide +kernel) (by decide +kernel) (by decide +kernel)) q1, CL_le (leT (by omega) (by decide +kernel) (by decide +kernel) (by decide +kernel)) q2, KL_le (leT (by omega) (by decide +kernel) (by decide +kernel) (by decide +kernel)) q3, EF_le (leT (by omega) (by decide +kernel) (by decide +kernel) (by decide +kernel)) q4, VL_le (leT (by omega) (by decide +kernel) (by decide +kernel) (by decide +kernel)) q5⟩
  exact tu_5 (d := D + 85) hP (c_mo hc (by omega)) (p_5 r.1 r.2.1 r.2.2.1 r.2.2.2.1 r.2.2.2.2 a1 a2 a3 a4)
/-- Asked.read -/
theorem v_AR {P : Nat} (hP : P = 3 ∨ P = 39) {D : Nat} (hD : 10 ≤ D) (hE : hcE D) (hc : ∀ p ∈ s_w1, CTR (yex D) p.1 p.2) : AR (Tt (D + 20) wdL (wk_1 P 0) (wk_1 P 0)) P := by
  obtain ⟨c132, c92, c83, c9, c12, c6, c10, c11, c14, c8, c7, c131⟩ := hE
  have h := v_132a hP hD c132 10 1 (by omega) (by omega)
  intro b sa sk sf sc sz Q a1 a2 a3 a4
  have ht : TL (Tt (D + 13 + 6) wdL (wk_1 P 1) (wk_1 P 1)) 1 := by
    rcases hP with rfl | rfl
    · exact TL_le (leT (by omega) (by decide +kernel) (by decide +kernel) (by decide +kernel)) h
    · exact TL_le (leT (by omega) (by decide +kernel) (by decide +kernel) (by decide +kernel)) h
  exact tu_1 (d := D + 13) hP (c_mo hc (by omega)) (p_1 ht a1 a2 a3 a4)
end BO
/-- Row.clear -/
theorem z_6 {d : Nat} {w : wW} {a : Nat} {sa sk sf sc sz : Int32} (ha : (cmem a rowL && Nat.beq (wc a) 6) = true) (hw : wok [(6, 2)] w = true) (hn : wmem (wc w.1.1, w.1.2) [(6, 2)] = false) : Tt (d + 1) [(6, 2)] w w 79 [.ref a] (sa, sk, sf, sc, sz) (fun r s1 => r = none ∧ s1 = (sa, sk, sf, sc, sz)) := by
  intro hh hI hs
  rw [Bool.and_eq_true] at ha
  obtain ⟨h', y1, y2, y3⟩ := y_79g (d := d) hI (cmem_ok ha.1)
  rw [Nat.eq_of_beq_eq_true ha.2] at y2
  obtain ⟨⟨a1, k1, f1, c1, z1⟩, q1, q2⟩ := WS_fr y2 hw hs
  refine ⟨none, h', 0, 0, _, ⟨rfl, ?_⟩, q1, y2, y1⟩
  obtain ⟨k1, k2, k3, -, k5, k6, -⟩ := q2
  have e1 := k1 (wmem_no hn)
  have e3 := k3 (wmem_no rfl)
  have e5 := k5 (wmem_no rfl)
  have e6 := k6 (wmem_no rfl)
  dsimp only at e1 k2 e3 e5 e6
  rw [e1, k2, e3, e5, e6]
theorem z_c {d : Nat} {w : wW} {sa sk sf sc sz : Int32} (hw : wok [(101, 2)] w = true) (hn : wmem (wc w.1.1, w.1.2) [(101, 2)] = false) : Tt (d + 1) [(101, 2)] w w 79 [.ref (w.2.1 + 34)] (sa, sk, sf, sc, sz) (fun r s1 => r = none ∧ s1 = (sa, sk, sf, 0, sz)) := by
  intro hh hI hs
  have hP : w.2.1 = 3 ∨ w.2.1 = 39 := by
    unfold wok at hw
    rw [Bool.and_eq_true, Bool.and_eq_true] at hw
    exact wgd_P hw.1.1
  have hr : w.2.1 + 34 ∈ rowL ∧ wc (w.2.1 + 34) = 101 := by
    rcases hP with e | e <;> rw [e] <;> exact ⟨cmem_ok (by decide +kernel), by decide +kernel⟩
  obtain ⟨h', y1, y2, y3⟩ := y_79g (d := d) hI hr.1
  rw [hr.2] at y2
  obtain ⟨⟨a1, k1, f1, c1, z1⟩, q1, q2⟩ := WS_fr y2 hw hs
  refine ⟨none, h', 0, 0, _, ⟨rfl, ?_⟩, q1, y2, y1⟩
  obtain ⟨k1, k2, k3, -, -, k6, -⟩ := q2
  have e1 := k1 (wmem_no hn)
  have e3 := k3 (wmem_no rfl)
  have e6 := k6 (wmem_no rfl)
  have e5 := q1.1.2.2.2.1
  rw [y3] at e5
  have e5 := Value.int.inj (Option.some.inj e5)
  dsimp only at e1 k2 e3 e5 e6
  rw [e1, k2, e3, ← e5, e6]
theorem z_1 {d : Nat} {w : wW} {sa sk sf sc sz : Int32} (hw : wok [(100, 2)] w = true) (hn : wmem (wc w.1.1, w.1.2) [(100, 2)] = false) : Tt (d + 1) [(100, 2)] w w 79 [.ref 1] (sa, sk, sf, sc, sz) (fun r s1 => r = none ∧ s1 = (sa, sk, sf, sc, 0)) := by
  intro hh hI hs
  obtain ⟨h', y1, y2, y3⟩ := y_79g (d := d) hI row_1
  rw [show wc 1 = 100 by decide +kernel] at y2
  obtain ⟨⟨a1, k1, f1, c1, z1⟩, q1, q2⟩ := WS_fr y2 hw hs
  refine ⟨none, h', 0, 0, _, ⟨rfl, ?_⟩, q1, y2, y1⟩
  obtain ⟨k1, k2, k3, -, k5, -, -⟩ := q2
  have e1 := k1 (wmem_no hn)
  have e3 := k3 (wmem_no rfl)
  have e5 := k5 (wmem_no rfl)
  have e6 := q1.1.2.2.2.2.1
  rw [y3] at e6
  have e6 := Value.int.inj (Option.some.inj e6)
  dsimp only at e1 k2 e3 e5 e6
  rw [e1, k2, e3, e5, ← e6]
theorem Tt_v {d d' : Nat} {W W' : List (Nat × Nat)} {w : wW} {j : Nat} {vs : List Value} {s s' : sW} {Q : Option Value → sW → Prop} (h : Tt d W w w j vs s (fun r s1 => r = none ∧ s1 = s')) (hd : d ≤ d') (hW : wsub W W' = true) (hq : Q none s') : Tt d' W' w w j vs s Q := Tt.W (Tt.imp (Tt.mo hd h) (fun r s1 e => by
  obtain ⟨rfl, rfl⟩ := e
  exact hq)) hW
theorem v_ZL {P : Nat} (hP : P = 3 ∨ P = 39) {d : Nat} (hd : 1 ≤ d) {c : List (Nat × Nat × Nat)} (h1 : wok [(6, 2)] ((84, 5), P, c) = true) (h2 : wok [(101, 2)] ((84, 5), P, c) = true) (h3 : wok [(100, 2)] ((84, 5), P, c) = true) {W : List (Nat × Nat)} (hW : (wsub [(6, 2)] W && (wsub [(101, 2)] W && wsub [(100, 2)] W)) = true) : ZL (Tt d W ((84, 5), P, c) ((84, 5), P, c)) P := by
  rw [Bool.and_eq_true, Bool.and_eq_true] at hW
  intro sa sk sf sc sz Q
  refine ⟨fun hq r hr => ?_, fun hq => Tt_v (z_c (d := 0) h2 (show wmem (wc 84, 5) [(101, 2)] = false by decide +kernel)) hd hW.2.1 hq, fun hq => Tt_v (z_1 (d := 0) h3 (show wmem (wc 84, 5) [(100, 2)] = false by decide +kernel)) hd hW.2.2 hq⟩
  have hr' : (cmem r rowL && Nat.beq (wc r) 6) = true := by
    rcases hP with rfl | rfl <;> (rcases List.mem_cons.mp hr with rfl | hr; · decide +kernel) <;> (rcases List.mem_cons.mp hr with rfl | hr; · decide +kernel) <;> (rcases List.mem_cons.mp hr with rfl | hr; · decide +kernel) <;> (rcases List.mem_cons.mp hr with rfl | hr; · decide +kernel) <;> (rcases List.mem_cons.mp hr with rfl | hr; · decide +kernel) <;> exact absurd hr List.not_mem_nil
  exact Tt_v (z_6 (d := 0) hr' h1 (show wmem (wc 84, 5) [(6, 2)] = false by decide +kernel)) hd hW.1 hq
section PR
theorem v_BG {P : Nat} (hP : P = 3 ∨ P = 39) {D : Nat} (hD : 10 ≤ D) (hc : ∀ p ∈ s_w37, CTR (yex D) p.1 p.2) : BG (Tt (D + 1) wdL (wk_37 P 0) (wk_37 P 0)) P := by
  obtain ⟨d', rfl⟩ : ∃ d', D = d' + 4 := ⟨D - 4, by omega⟩
  intro sa sk sf sc sz Q a1
  have hz : ZL (Tt (d' + 4) wdL (wk_37 P 0) (wk_37 P 0)) P := by
    rcases hP with rfl | rfl
    · exact v_ZL (Or.inl rfl) (by omega) (by decide +kernel) (by decide +kernel) (by decide +kernel) (by decide +kernel)
    · exact v_ZL (Or.inr rfl) (by omega) (by decide +kernel) (by decide +kernel) (by decide +kernel) (by decide +kernel)
  exact tu_37 hP hc (p_37 hz a1)
/-- readTape -/
theorem v_RT {P : Nat} (hP : P = 3 ∨ P = 39) {D : Nat} (hD : 10 ≤ D) (hE : hcE D) (hc1 : ∀ p ∈ s_w1, CTR (yex D) p.1 p.2) (hc : ∀ p ∈ s_w152, CTR (yex D) p.1 p.2) : RTs (Tt (D + 25) wdL (wk_152 P 0) (wk_152 P 0)) := by
  have ha := v_AR hP hD hE hc1
  intro b sa sk sf sc sz Q a1 a2 a3 a4
  have hz : ZL (Tt (D + 20 + 4) wdL (wk_152 P 0) (wk_152 P 0)) P := by
    rcases hP with rfl | rfl
    · exact v_ZL (Or.inl rfl) (by omega) (by decide +kernel) (by decide +kernel) (by decide +kernel) (by decide +kernel)
    · exact v_ZL (Or.inr rfl) (by omega) (by decide +kernel) (by decide +kernel) (by decide +kernel) (by decide +kernel)
  have ha' : AR (Tt (D + 20 + 4) wdL (wk_152 P 0) (wk_152 P 0)) P := by
    rcases hP with rfl | rfl
    · exact AR_le (leT (by omega) (by decide +kernel) (by decide +kernel) (by decide +kernel)) ha
    · exact AR_le (leT (by omega) (by decide +kernel) (by decide +kernel) (by decide +kernel)) ha
  exact tu_152 (d := D + 20) hP (c_mo hc (by omega)) (p_152 hz ha' a1 a2 a3 a4)
theorem v_141 {P : Nat} (hP : P = 3 ∨ P = 39) {D : Nat} (hD : 10 ≤ D) (hE : hcE D) (hc1 : ∀ p ∈ s_w1, CTR (yex D) p.1 p.2) (hc2 : ∀ p ∈ s_w152, CTR (yex D) p.1 p.2) (hc : ∀ p ∈ s_w141, CTR (yex D) p.1 p.2) {sa sk sf sc sz : Int32} {Q : Option Value → sW → Prop} (h1 : 0 ≤ sk.toInt) (h3 : sk.toInt ≤ 1200000000) (hq : ∀ r f : Int32, Q (some (.int r)) (sa, sk, f, sc, 0)) : Tt (D + 30) wcL (wk_141 P 0) (wk_141 P 0) 141 [.ref 0] (sa, sk, sf, sc, sz) Q := by
  have hr := v_RT hP hD hE hc1 hc2
  have hr' : RTs (Tt (D + 25 + 4) wcL (wk_141 P 0) (wk_141 P 0)) := RTs_le (fun j vs s Q g => Tt.W (Tt.mo (by omega) g) (by decide +kernel)) hr
  exact tu_141 (d := D + 25) hP (c_mo hc (by omega)) (p_141 hr' h1 h3 hq)
theorem v_147 {P : Nat} (hP : P = 3 ∨ P = 39) {D : Nat} (hD : 10 ≤ D) (hE : hcE D) (hc1 : ∀ p ∈ s_w1, CTR (yex D) p.1 p.2) (hc2 : ∀ p ∈ s_w152, CTR (yex D) p.1 p.2) (hc : ∀ p ∈ s_w147, CTR (yex D) p.1 p.2) {sa sk sf sc sz : Int32} {Q : Option Value → sW → Prop} (h1 : 0 ≤ sk.toInt) (h3 : sk.toInt ≤ 1200000000) (hq : ∀ r f : Int32, Q (some (.int r)) (sa, sk, f, sc, 0)) : Tt (D + 30) wcL (wk_147 P 0) (wk_147 P 0) 147 [.ref 0] (sa, sk, sf, sc, sz) Q := by
  have hr := v_RT hP hD hE hc1 hc2
  have hr' : RTs (Tt (D + 25 + 4) wcL (wk_147 P 0) (wk_147 P 0)) := RTs_le (fun j vs s Q g => Tt.W (Tt.mo (by omega) g) (by decide +kernel)) hr
  exact tu_147 (d := D + 25) hP (c_mo hc (by omega)) (p_147 hr' h1 h3 hq)
end PR
