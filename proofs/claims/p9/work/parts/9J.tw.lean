def thisT (G : PG) (f : Nat) : List Nat := (8 * gso G f + gpm G f) :: (List.range (gpm G f)).map (fun p => 8 * (4000 + 6 * f + p))
/-- where E stands: in function f, or in main -/
def PX (b F : Nat) (G : PG) (fo : Option Nat) (s : yS) : Prop := (s.1 76).toInt = -1 ∧ match fo with
  | some f => f < F ∧ (s.1 77).toInt = 204 * (b : Int) + (gfh G f : Nat) ∧ (s.1 78).toInt = 60 * (b : Int) + (f : Nat)
  | none => (s.1 77).toInt = -1 ∧ (s.1 78).toInt = -1
def scX (G : PG) (fo : Option Nat) : Nat → Prop := match fo with
  | some f => scHg G (gfh G f)
  | none => sc0
def tVX (G : PG) (fo : Option Nat) : Nat → Option (List Nat) := match fo with
  | some f => fun k => if k = 0 then some (thisT G f) else if k - 1 < gvn G (gfh G f) then some (gvt G (gfh G f) (k - 1)) else none
  | none => fun _ => none
def TW (own : Nat → Nat × Nat) (b n W N T F H S0 : Nat) (G : PG) (fo : Option Nat) (S O P E : Nat) (s : yS) : Prop := CK own b n N T F H S0 G s ∧ Lx b n W s ∧ (0 ≤ (s.1 8).toInt ∧ (s.1 8).toInt ≤ 70000) ∧ PX b F G fo s ∧ (s.1 64).toInt = (P : Int) ∧ (s.1 70).toInt = (E : Int) ∧ (s.1 65).toInt = (S : Int) ∧ (s.1 85).toInt = (O : Int) ∧ S0 ≤ S ∧ 10 + 4100 * b ≤ S ∧ S ≤ 10 + 4100 * (b + 1) ∧ 60000 * b ≤ O ∧ 100000 ≤ P
theorem z41 {S b : Nat} (h : S ≤ 10 + 4100 * (b + 1)) (hb : b < 2) : S ≤ 8210 := by
  have : 4100 * (b + 1) ≤ 4100 * 2 := Nat.mul_le_mul_left _ (by omega)
  exact Nat.le_trans h (Nat.le_trans (Nat.add_le_add_left this 10) (by decide))
section TWS
variable {own : Nat → Nat × Nat} {b n W N T F H S0 : Nat} {G : PG} {fo : Option Nat} {S O P E S' O' P' E' lo hi : Nat} {s s' : yS}
theorem TW_num (hW : TW own b n W N T F H S0 G fo S O P E s) : b < 2 ∧ n ≤ 4000 ∧ T ≤ 24 ∧ F ≤ 60 ∧ H ≤ 204 ∧ gT G = T ∧ gF G = F ∧ S ≤ 8210 := by
  obtain ⟨c1, -, -, -, -, -, -, -, -, -, h11, -⟩ := hW
  obtain ⟨d1, -, -, -, -, -, -, d8, -⟩ := c1
  have g := pgA d1
  rw [d8] at g
  have hb := d1.1
  exact ⟨d1.1, d1.2.1, d1.2.2.1, d1.2.2.2.1, d1.2.2.2.2.1, g.1, g.2.1, z41 h11 hb⟩
theorem scX_C (hW : WG G H) (hF : gF G = F) (h : PX b F G fo s) : scC G H (scX G fo) := by
  cases fo with
  | none => exact scC_0
  | some f => exact scC_h hW (hW.2.2.2.2.2.2.1 f (by have := h.2.1; omega)).1
theorem TW_RI (hW : TW own b n W N T F H S0 G fo S O P E s) : RI b n W b n own N T F H (vE G (scX G fo)) 0 s := by
  obtain ⟨hb, hn, hT24, hF60, hH, gT', gF', -⟩ := TW_num hW
  obtain ⟨c1, c2, c3, c4, -⟩ := hW
  obtain ⟨d1, d2, d3, d4, d5, d6, d7, d8, d9, d10⟩ := c1
  have g := pgA d1
  rw [d8] at g
  obtain ⟨-, -, g3, g4, -, -, g7⟩ := g
  refine ⟨c2, d1, ?_, d7, d5, c3, fun c hc => ?_, fun w => absurd rfl w⟩
  · cases fo with
    | none => exact ⟨Or.inl c4.2.1, Or.inl c4.1, Or.inl c4.2.2⟩
    | some f =>
      obtain ⟨p1, p2, p3, p4⟩ := c4
      exact ⟨Or.inr ⟨gfh G f, (d9.2.2.2.2.2.2.1 f (by omega)).1, p3⟩, Or.inl p1, Or.inr ⟨f, p2, p4⟩⟩
  · have vec : ∀ a : Nat, a ≤ 6 → ((c < gT G ∧ a = gfm G c) ∨ (a = 0 ∧ 1000 ≤ c ∧ scX G fo c)) → vE G (scX G fo) (8 * c + a) := by
      intro a ha h
      unfold vE
      rw [show (8 * c + a) / 8 = c by omega, show (8 * c + a) % 8 = a by omega]
      exact h
    rcases hc with w | ⟨h', k, w1, w2, w3, w4⟩ | ⟨d', k, w1, w2, w3, w4⟩ | ⟨f', k, w1, w2, w3, w4⟩
    · rw [if_pos (by omega)]
      have := (d9.2.1 c (by omega)).1
      have e := (g3 c w).1
      exact vec _ (by omega) (Or.inl ⟨by omega, e.symm⟩)
    · rw [if_neg (by omega)]
      refine vec 0 (by omega) (Or.inr ⟨rfl, by omega, ?_⟩)
      cases fo with
      | none =>
        have := c4.2.1
        omega
      | some f =>
        have := c4.2.2.1
        have e : h' = gfh G f := by omega
        subst e
        exact Or.inl ⟨k, by rw [(g4 _ w1).1]; exact w3, w4⟩
    · have := c4.1
      omega
    · rw [if_neg (by omega)]
      refine vec 0 (by omega) (Or.inr ⟨rfl, by omega, ?_⟩)
      cases fo with
      | none =>
        have := c4.2.2
        omega
      | some f =>
        have := c4.2.2.2
        have e : f' = f := by omega
        subst e
        exact Or.inr (Or.inr ⟨f', by omega, rfl, k, by rw [(g7 _ w1).2.2]; exact w3, w4⟩)
theorem TW_fr {ks : List Nat} (hW : TW own b n W N T F H S0 G fo S O P E s) (hF : TFr ks b lo hi S P E O s s') (hk : 75 ∉ ks ∧ 76 ∉ ks ∧ 77 ∉ ks ∧ 78 ∉ ks) (ho : ∀ x, lo ≤ x → x < hi → (own x).1 ∉ slR) (h8 : 0 ≤ (s'.1 8).toInt ∧ (s'.1 8).toInt ≤ 70000) (h64 : (s'.1 64).toInt = (P' : Int)) (h70 : (s'.1 70).toInt = (E' : Int)) (h65 : (s'.1 65).toInt = (S' : Int)) (h85 : (s'.1 85).toInt = (O' : Int)) (hS : S ≤ S') (hS2 : S' ≤ 10 + 4100 * (b + 1)) (hO : O ≤ O') (hP : 100000 ≤ P') : TW own b n W N T F H S0 G fo S' O' P' E' s' := by
  obtain ⟨hb, hn, hT24, hF60, hH, gT', gF', hS8⟩ := TW_num hW
  obtain ⟨c1, c2, c3, c4, c5, c6, c7, c8, c9, c10, c11, c12, c13⟩ := hW
  refine ⟨CK_eq c1 (TF_NL hF) (fun y y1 y2 y3 => ?_) (fun j hj => ?_) (fun i _ _ => by rw [TF_row hF (by decide)]) hF.2.2.2.1 hF.2.2.2.2 (by rw [hF.1 75 hk.1]; exact c1.2.2.2.2.2.2.1), Lx_eq c2 (TF_row hF (by decide)) (TF_row hF (by decide)) (TF_row hF (by decide)), h8, ?_, h64, h70, h65, h85, by omega, by omega, hS2, by omega, hP⟩
  · have ny : ¬ (lo ≤ y ∧ y < hi) := fun w => ho y w.1 w.2 y3
    exact ⟨hF.2.1 231 y (fun w => ny w.2) (fun w => by omega) (fun w => by omega) (fun w => by omega) (fun w => by omega), hF.2.1 232 y (fun w => ny w.2) (fun w => by omega) (fun w => by omega) (fun w => by omega) (fun w => by omega)⟩
  · exact hF.2.1 264 j (fun w => by omega) (fun w => by omega) (fun w => by omega) (fun w => by omega) (fun w => by omega)
  · unfold PX
    rw [hF.1 76 hk.2.1, hF.1 77 hk.2.2.1, hF.1 78 hk.2.2.2]
    exact c4
theorem TW_WS (hW : TW own b n W N T F H S0 G fo S O P E s) (hP : P ≤ 199600) (hE : E ≤ 290) : WS own b n N T F H S0 b n W P E G s := by
  obtain ⟨c1, c2, c3, c4, c5, c6, c7, c8, c9, c10, c11, c12, c13⟩ := hW
  exact ⟨c1, c2, c3, c5, by omega, hP, c6, hE⟩
/-- resolve -/
theorem t204 {y h : Nat} {a1 : Int32} (hW : TW own b n W N T F H S0 G fo S O P E s) (hY : isY b n s 11 h y) (hh : h ≤ 12006) (h1 : a1.toInt = (y : Int)) (hS : S + (h - y) ≤ 10 + 4100 * (b + 1)) : Tot 13 204 [.ref 213, .int a1, .int 0] s (fun v s' => v = none ∧ TFr tK b y h S P E O s s' ∧ f8 s s' ∧ (∀ k, k ∉ [8, 65] → s'.1 k = s.1 k) ∧ ∃ S' : Nat, (s'.1 65).toInt = (S' : Int) ∧ S ≤ S' ∧ S' ≤ S + (h - y) ∧ ((s'.1 8).toInt = 0 → rsv s' (vE G (scX G fo)) 11 y S (S' - S))) := by
  have hI := TW_RI hW
  obtain ⟨hb, -⟩ := TW_num hW
  have h13 : S + (h - y) ≤ 13000 := Nat.le_trans (z41 hS hb) (by decide)
  obtain ⟨c1, c2, c3, c4, c5, c6, c7, c8, c9, c10, c11, c12, c13⟩ := hW
  refine Tot.imp (s_204 11 s a1 0 y h S (by rw [show (0 : Int32).toInt = 0 by decide]; exact hI) hY hh h1 c7 h13) ?_
  rintro v s' ⟨rfl, q1, q2, q3, S', q4, q5, q6, q7⟩
  refine ⟨rfl, ⟨fun k hk => q1.1 k (fun w => hk (by clear hk; revert k; decide)), fun q i w1 w2 w3 w4 w5 => q1.2.1 q i (fun w => w1 ⟨by omega, w.2⟩) (fun w => w2 ⟨w.1, by omega⟩), q1.2.2, q2, fun i => ?_⟩, ⟨q3, fun w => (q7 w).1⟩, q1.1, S', q4, q5, q6, fun w => (q7 w).2⟩
  rw [RFr_row q1 (by decide)]
  exact c1.2.2.2.2.2.1 i
/-- bounds -/
theorem t211 {y h p l : Nat} {a1 : Int32} (hW : TW own b n W N T F H S0 G fo S O P E s) (hP : P ≤ 199600) (hE : E ≤ 289) (hY : isY b n s 11 h y) (hh : h ≤ 12006) (hR : rsv s (vE G (scX G fo)) 11 y p l) (hpl : p + l ≤ S) (h1 : a1.toInt = (y : Int)) : Tot 18 211 [.ref 213, .int a1] s (fun v s' => v = none ∧ XF b5K P E s s' ∧ f8 s s' ∧ ((s'.1 8).toInt = 0 → okBa G (seg s p l))) := by
  obtain ⟨hb, hn, hT24, hF60, hH, gT', gF', hS8⟩ := TW_num hW
  exact s_211 (own := own) (S0 := S0) hE (scX_C hW.1.2.2.2.2.2.2.2.2.1 gF' hW.2.2.2.1) (fun x hx => hx) 11 s a1 y h p l (TW_WS hW hP (by omega)) hY hh hR (by omega) h1
end TWS
