/-! ===== funcWords ===== -/
/-- function f's struct is there, and has as many parameters -/
def SO (b T : Nat) (z s : yS) (f : Nat) : Prop := ∃ c, c < T ∧ (s.2.1 261 (60 * b + f)).toInt = (c : Int) ∧ ¬ (z.2.1 235 (24 * b + c)).toInt = 0 ∧ nT z 236 (24 * b + c) = nT z 255 (60 * b + f)
section FW
variable {own : Nat → Nat × Nat} {b n W N T F H f : Nat} {D : Nat × Nat → Bool} {z s : yS}
def FWQ (own : Nat → Nat × Nat) (b n W N T F H f : Nat) (D : Nat × Nat → Bool) (z s s' : yS) : Prop := ∃ D', PH own b n W N T F H D' z s' ∧ DG (hSl (nT z 257 (60 * b + f))) D D' ∧ (∀ i, ¬ i = 60 * b + f → s'.2.1 261 i = s.2.1 261 i) ∧ ((s'.1 8).toInt = 0 → hDn z (nT z 257 (60 * b + f)) D' ∧ SO b T z s' f)
theorem fw68 {a1 a2 : Int32} {u : yS} (hf : f < F) (h1 : a1.toInt = 60 * (b : Int) + (f : Nat)) (hP : PH own b n W N T F H D z u) (h61 : u.2.1 261 = s.2.1 261) (hD : ∀ p, hSl (nT z 257 (60 * b + f)) p → D p = false) (hS : (u.1 8).toInt = 0 → ∃ c, c < T ∧ a2.toInt = (c : Int) ∧ ¬ (z.2.1 235 (24 * b + c)).toInt = 0 ∧ nT z 236 (24 * b + c) = nT z 255 (60 * b + f)) : w_210_68 (Tot 15) a1 a2 u (fun v s' => v = none ∧ FWQ own b n W N T F H f D z s s') := by
  obtain ⟨hb, hn, hT24, hF60, hH204, -, -, hA⟩ := id hP.2.1
  obtain ⟨r1, r2, r3, -⟩ := hA.2.2.1 f hf
  have e1 : a1.toInt.toNat = 60 * b + f := by omega
  have e57 : nT z 257 (60 * b + f) = (u.2.1 257 (60 * b + f)).toInt.toNat := by unfold nT; rw [PH_row hP (by decide)]
  unfold w_210_68
  rw [e1]
  refine ⟨by omega, ?_⟩
  rintro s1 rfl
  have c57 : (sa u 261 (60 * b + f) a2).2.1 257 (60 * b + f) = u.2.1 257 (60 * b + f) := by rw [sa_2, if_neg (fun w => by omega)]
  rw [c57]
  have P1 : PH own b n W N T F H D z (sa u 261 (60 * b + f) a2) := PH_mv hP (fun _ _ => rfl) hP.2.2.2.2.1 (fun w => w) (fun q i w => by rw [sa_2, if_neg (fun w' => w ⟨w'.1, by omega, by omega⟩)]) rfl
  refine ⟨by omega, ?_⟩
  obtain ⟨h, hh⟩ : ∃ h, nT z 257 (60 * b + f) = 204 * b + h := ⟨nT z 257 (60 * b + f) - 204 * b, by omega⟩
  refine Tot.imp (s_208 (h := h) P1 (by omega) (by omega) (Or.inr ⟨f, hf, by decide, h1, hh⟩) (fun p hp => hD p (by rw [hh]; exact hp))) ?_
  rintro v s' ⟨rfl, D', k1, k2, k3, k4⟩
  refine ⟨rfl, rfl, D', k1, by rw [hh]; exact k2, fun i hi => ?_, fun h0 => ⟨by rw [hh]; exact k3, ?_⟩⟩
  · rw [k4.1, sa_2, if_neg (fun w => hi w.2), h61]
  · have hu0 : (u.1 8).toInt = 0 := k4.2 h0
    obtain ⟨c, c1, c2, c3, c4⟩ := hS hu0
    exact ⟨c, c1, by rw [k4.1, sa_2, if_pos ⟨rfl, rfl⟩]; exact c2, c3, c4⟩
theorem s_210 {a1 : Int32} (hP : PH own b n W N T F H D z s) (hf : f < F) (h1 : a1.toInt = 60 * (b : Int) + (f : Nat)) (hD : ∀ p, hSl (nT z 257 (60 * b + f)) p → D p = false) : Tot 16 210 [.ref 213, .int a1] s (fun v s' => v = none ∧ FWQ own b n W N T F H f D z s s') := by
  have h8 := hP.2.2.2.2.1
  have e1 : a1.toInt.toNat = 60 * b + f := by have := hP.2.1.1; omega
  refine t_210 ?_
  unfold w_210_0
  refine ⟨fun hle => ?_, fun hgt => ⟨rfl, D, hP, DG_rf, fun _ _ => rfl, fun w => absurd (by omega) hgt⟩⟩
  refine Tot.imp (Tot.mono (by omega) (s_206 (d := 0))) ?_
  rintro v s0 ⟨rfl, rfl⟩
  refine ⟨rfl, ?_⟩
  have P0 : PH own b n W N T F H D z (sf (sf (sf s 76 (-1)) 77 (-1)) 78 (-1)) := by
    refine PH_mv (s := s) hP (fun k hk => ?_) hP.2.2.2.2.1 (fun w => w) (fun q i _ => rfl) rfl
    rw [sf_1, if_neg (fun w => hk (by rw [w]; decide)), sf_1, if_neg (fun w => hk (by rw [w]; decide)), sf_1, if_neg (fun w => hk (by rw [w]; decide))]
  have L0 : PL b T F H (sf (sf (sf s 76 (-1)) 77 (-1)) 78 (-1)) := ⟨Or.inl (by show (-1 : Int32).toInt = -1; decide), Or.inl (by show (-1 : Int32).toInt = -1; decide), Or.inl (by show (-1 : Int32).toInt = -1; decide)⟩
  have sc0 : ∀ c, scp b T F H (sf (sf (sf s 76 (-1)) 77 (-1)) 78 (-1)) c → c < T := by
    have m1 : (-1 : Int32).toInt = -1 := by decide
    rintro c (w | ⟨h', k, w1, w2, w3, w4⟩ | ⟨d', k, w1, w2, w3, w4⟩ | ⟨f', k, w1, w2, w3, w4⟩)
    · exact w
    · have w2 : (-1 : Int32).toInt = _ := w2
      omega
    · have w2 : (-1 : Int32).toInt = _ := w2
      omega
    · have w2 : (-1 : Int32).toInt = _ := w2
      omega
  have e61 : (sf (sf (sf s 76 (-1)) 77 (-1)) 78 (-1)).2.1 261 = s.2.1 261 := rfl
  have e80 : ((sf (sf (sf s 76 (-1)) 77 (-1)) 78 (-1)).1 8).toInt = 0 := by
    show (s.1 8).toInt = 0
    omega
  obtain ⟨u, hu⟩ : ∃ u, u = sf (sf (sf s 76 (-1)) 77 (-1)) 78 (-1) := ⟨_, rfl⟩
  rw [← hu] at P0 L0 sc0 e61 e80 ⊢
  clear hu hP hle
  obtain ⟨hb, hn, hT24, hF60, hH204, -, -, hA⟩ := id P0.2.1
  obtain ⟨⟨-, r1, r2, r3, r4⟩, -⟩ := hA.2.2.1 f hf
  obtain ⟨t1, t2, t3, t4⟩ := r1
  have h75 := P0.2.2.1
  rw [e1]
  refine ⟨by omega, by omega, ?_⟩
  refine Tot.imp (Tot.mono (by omega) (s_203 (e := 0) P0.2.1 L0 h75)) ?_
  rintro v s3 ⟨es, x5, rfl, h5⟩
  have es := es.symm
  subst es
  -- a fault, and on
  have bad : ∀ w : Int32, 1 ≤ w.toInt ∧ w.toInt ≤ 15 → Tot 15 163 [.ref 213, .int w, .int (u.2.1 254 (60 * b + f))] u (fun v11 s10 => v11 = none ∧ (w_210_68 (Tot 15) a1 x5 s10 (fun v s' => v = none ∧ FWQ own b n W N T F H f D z s s'))) := by
    intro w hw
    refine Tot.imp (Tot.mono (by omega) (fo_163 (d := 0) (w := w) P0.1 P0.2.2.2.2.1 hw (by omega))) ?_
    rintro v s4 ⟨rfl, hF, hne⟩
    have e2 := FO_2 hF
    refine ⟨rfl, fw68 hf h1 (PH_mv P0 (fun k hk => FO_1 hF (fun w => hk (by rw [w]; decide))) (FO_8 hF) (fun w => absurd w hne) (fun q i _ => by rw [e2]) (by rw [e2])) (by rw [e2]; exact e61) hD (fun w => absurd w hne)⟩
  refine ⟨x5, rfl, fun hpos => ?_, fun hneg => ⟨by omega, bad 2 (by decide)⟩⟩
  obtain ⟨c, hc1, hc2⟩ := h5.resolve_left (fun w => by omega)
  have hcT := sc0 c hc2
  clear h5 sc0
  refine ⟨by omega, fun x6 hx6 => ⟨by omega, fun x7 hx7 => ?_⟩⟩
  have e7 : x7.toInt.toNat = 24 * b + c := by omega
  rw [e7]
  refine ⟨by omega, fun h35 => ⟨by omega, fun x8 hx8 => ⟨by omega, fun x9 hx9 => ?_⟩⟩, fun _ => ⟨by omega, bad 6 (by decide)⟩⟩
  have e9 : x9.toInt.toNat = 24 * b + c := by omega
  rw [e9]
  refine ⟨by omega, by omega, fun heq => ?_, fun _ => ⟨by omega, bad 4 (by decide)⟩⟩
  refine fw68 hf h1 P0 e61 hD (fun _ => ⟨c, hcT, hc1, ?_, ?_⟩)
  · rw [← PH_row P0 (by decide)]
    exact h35
  · unfold nT
    rw [← PH_row P0 (show 236 ∉ [231, 232, 261, 264] by decide), ← PH_row P0 (show 255 ∉ [231, 232, 261, 264] by decide), heq]
end FW
