/-! ===== takeE, takeList, behindPoint behind a fault ===== -/
section EF
variable {d b n W : Nat} {s : yS}
theorem e94f {P : Option Value → yS → Prop} {a1 a2 a3 : Int32} (hL : Lx b n W s) (hR : Rd b n s) (hf : ¬ (s.1 8).toInt = 0) (hD : 1 ≤ (s.1 27).toInt ∧ (s.1 27).toInt ≤ 51) (hP : ∀ x4 : Int32, x4.toInt = (s.1 27).toInt - 1 → P (some (.int a1)) (sf s 27 x4)) : wl_175_94 (Tot (d + 1)) a1 a2 a3 s P := by
  refine ⟨fun b1 _ _ t => b1 = a1 ∧ t = s, fun _ _ _ _ => 0, ⟨rfl, rfl⟩, ?_⟩
  rintro _ b2 b3 _ ⟨rfl, rfl⟩
  unfold w_175_94
  refine Tot.imp (s_164 hL hR) ?_
  rintro v s1 ⟨rfl, x, rfl, hx⟩
  refine ⟨x, rfl, fun _ => ⟨by omega, fun x4 hx4 s5 h5 => by subst h5; exact hP x4 hx4⟩, fun h0 => ?_⟩
  rcases hx with hx | hx
  · exact absurd hx.2.1 hf
  · exact absurd hx.1 h0
theorem e37f {P : Option Value → yS → Prop} (hL : Lx b n W s) (hR : Rd b n s) (hf : ¬ (s.1 8).toInt = 0) (hD : 1 ≤ (s.1 27).toInt ∧ (s.1 27).toInt ≤ 51) (hN : 0 ≤ (s.1 26).toInt ∧ (s.1 26).toInt < 12000) (hA : (s.1 7).toInt ≤ 12900) (hP : ∀ s' : yS, Fr (s.1 26).toInt.toNat s s' → s'.1 8 = s.1 8 → (s'.1 7).toInt = (s.1 7).toInt + 1 → (s'.1 26).toInt = (s.1 26).toInt + 1 → (s'.1 27).toInt = (s.1 27).toInt - 1 → P (some (.int (s.1 26))) s') : w_175_37 (Tot (d + 1)) 0 s P := by
  refine ⟨fun _ => ?_, fun h => absurd (show (0 : Int32).toInt = 0 by decide) h⟩
  refine Tot.imp (s_171 (s := s) ⟨hN.1, by omega⟩) ?_
  rintro v s3 ⟨rfl, hw⟩
  have f3 := Fr_nw hw
  have e7 : s3.1 7 = s.1 7 := hw.2.1 7 (by decide)
  have e8 : s3.1 8 = s.1 8 := hw.2.1 8 (by decide)
  have e27 : s3.1 27 = s.1 27 := hw.2.1 27 (by decide)
  have e26 : (s3.1 26).toInt = (s.1 26).toInt + 1 := hw.1
  refine ⟨_, rfl, by rw [e7]; unfold Rd at hR; omega, ?_⟩
  rintro x9 hx9 s4 rfl
  have f4 : Fr (s.1 26).toInt.toNat s (sf s3 7 x9) := Fr_sf f3 (by decide)
  have r4 : Rd b n (sf s3 7 x9) := by
    unfold Rd at hR ⊢
    simp only [sf_1]
    simp only [if_true, if_neg (show ¬ (8 : Nat) = 7 by decide), e8, hx9, e7]
    exact ⟨hR.1, hR.2.1, by omega, by omega, fun q => absurd q hf⟩
  unfold w_175_92
  have q27 : (sf s3 7 x9).1 27 = s.1 27 := e27
  refine e94f (Fr_Lx f4 hL) r4 (by show ¬ (s3.1 8).toInt = 0; rw [e8]; exact hf) (by rw [q27]; exact hD) (fun x4 hx4 => ?_)
  rw [q27] at hx4
  exact hP _ (Fr_sf f4 (by decide)) e8 (by show x9.toInt = _; rw [hx9, e7]) e26 hx4
/-- behind a fault: k nodes, t tokens further -/
def FT (k t : Int) (s s' : yS) : Prop := Fr (s.1 26).toInt.toNat s s' ∧ s'.1 8 = s.1 8 ∧ (s'.1 7).toInt = (s.1 7).toInt + t ∧ (s'.1 26).toInt = (s.1 26).toInt + k ∧ s'.1 27 = s.1 27
theorem FT_Rd {k t : Int} {s' : yS} (h : FT k t s s') (hR : Rd b n s) (hf : ¬ (s.1 8).toInt = 0) (ht : 0 ≤ t ∧ (s.1 7).toInt + t ≤ 13000) : Rd b n s' := by
  obtain ⟨-, h1, h2, -⟩ := h
  unfold Rd at *
  rw [h1]
  exact ⟨hR.1, hR.2.1, by omega, by omega, fun q => absurd q hf⟩
theorem s_175f (hL : Lx b n W s) (hR : Rd b n s) (hf : ¬ (s.1 8).toInt = 0) (hD : 0 ≤ (s.1 27).toInt ∧ (s.1 27).toInt ≤ 50) (hN : 0 ≤ (s.1 26).toInt ∧ (s.1 26).toInt < 12000) (hA : (s.1 7).toInt ≤ 12900) : Tot (d + 3) 175 [.ref 213] s (fun v s' => v = some (.int (s.1 26)) ∧ FT 1 1 s s') := by
  refine t_175 ?_
  unfold w_175_0
  refine Tot.imp (s_166 hL hR) ?_
  rintro v s1 ⟨rfl, x, rfl, hx⟩
  refine ⟨x, rfl, ?_⟩
  refine Tot.imp (s_172 hL hR (by omega)) ?_
  rintro v s2 ⟨rfl, y, z, hy, rfl, hz, -⟩
  have ez := hz hf
  subst ez
  rw [sf_id]
  refine ⟨rfl, fun _ => ?_, fun q => absurd q hf⟩
  unfold w_175_36
  have f1 : Fr (s1.1 26).toInt.toNat s1 (sf s1 27 y) := Fr_sf Fr_rf (by decide)
  refine e37f (s := sf s1 27 y) (Fr_Lx f1 hL) hR hf (by show 1 ≤ y.toInt ∧ y.toInt ≤ 51; omega) hN hA (fun s' g1 g2 g3 g4 g5 => ⟨rfl, Fr_tr f1 g1 ⟨Nat.le_refl _, rfl⟩, g2, g3, g4, Int32.toInt_inj.mp ?_⟩)
  have g5' : (s'.1 27).toInt = y.toInt - 1 := g5
  omega
theorem s_176f (hL : Lx b n W s) (hR : Rd b n s) (hf : ¬ (s.1 8).toInt = 0) (hD : 0 ≤ (s.1 27).toInt ∧ (s.1 27).toInt ≤ 50) (hN : 0 ≤ (s.1 26).toInt ∧ (s.1 26).toInt < 12000) (hA : (s.1 7).toInt ≤ 12900) : Tot (d + 4) 176 [.ref 213] s (fun v s' => v = some (.int (s.1 26)) ∧ FT 1 1 s s') := by
  refine t_176 ?_
  unfold w_176_0
  refine Tot.imp (s_175f hL hR hf hD hN hA) ?_
  rintro v s1 ⟨rfl, h1⟩
  refine ⟨_, rfl, ?_⟩
  have r1 := FT_Rd h1 hR hf (by omega)
  have l1 := Fr_Lx h1.1 hL
  refine ⟨fun b1 _ _ t => b1 = s.1 26 ∧ t = s1, fun _ _ _ _ => 0, ⟨rfl, rfl⟩, ?_⟩
  rintro _ b2 b3 _ ⟨rfl, rfl⟩
  unfold w_176_7
  refine Tot.imp (Tot.mono (by omega) (s_168 (d := 0) l1 r1)) ?_
  rintro v s2 ⟨y, rfl, hy⟩
  have e8 := h1.2.1
  refine ⟨y, rfl, fun h0 => ?_, fun h0 => ?_⟩
  · rcases hy with hy | hy
    · omega
    · rintro s4 rfl
      rw [hy.2.2]
      exact ⟨rfl, Fr_sf h1.1 (by decide), h1.2.1, h1.2.2.1, h1.2.2.2.1, h1.2.2.2.2⟩
  · rcases hy with hy | hy
    · have := hy.2.1.1
      rw [e8] at this
      exact absurd this hf
    · exact absurd hy.1 h0
theorem s_177f {e : Int32} (hL : Lx b n W s) (hR : Rd b n s) (hf : ¬ (s.1 8).toInt = 0) (hD : 0 ≤ (s.1 27).toInt ∧ (s.1 27).toInt ≤ 50) (hN : 0 ≤ (s.1 26).toInt ∧ (s.1 26).toInt < 12000) (hA : (s.1 7).toInt ≤ 12900) (he : 0 ≤ e.toInt ∧ e.toInt < (s.1 26).toInt) : Tot (d + 4) 177 [.ref 213, .int e] s (fun v s' => v = some (.int (s.1 26)) ∧ Fr (s.1 26).toInt.toNat (sa s 228 e.toInt.toNat (s.1 26)) s' ∧ s'.1 8 = s.1 8 ∧ (s'.1 7).toInt = (s.1 7).toInt + 2 ∧ (s'.1 26).toInt = (s.1 26).toInt + 1 ∧ s'.1 27 = s.1 27) := by
  refine t_177 ?_
  unfold w_177_0
  refine ⟨by unfold Rd at hR; omega, ?_⟩
  rintro x1 hx1 s2 rfl
  have f1 : Fr (s.1 26).toInt.toNat s (sf s 7 x1) := Fr_sf Fr_rf (by decide)
  have l1 := Fr_Lx f1 hL
  have r1 : Rd b n (sf s 7 x1) := by
    unfold Rd at hR ⊢
    simp only [sf_1]
    simp only [if_true, if_neg (show ¬ (8 : Nat) = 7 by decide), hx1]
    exact ⟨hR.1, hR.2.1, by omega, by omega, fun q => absurd q hf⟩
  refine Tot.imp (Tot.mono (by omega) (s_168 (d := 0) l1 r1)) ?_
  rintro v s2 ⟨y, rfl, hy⟩
  have hy := hy.resolve_left (fun h => hf h.2.1.1)
  obtain ⟨y0, -, rfl⟩ := hy
  refine ⟨y, rfl, fun _ => ?_, fun h => absurd y0 h⟩
  refine Tot.imp (Tot.mono (by omega) (s_166 (d := 0) l1 r1)) ?_
  rintro v s3 ⟨rfl, x8, rfl, h8⟩
  have h8 := h8.resolve_left (fun h => hf h.2.1)
  refine ⟨x8, rfl, fun h => absurd h8.1 h, fun _ => ?_⟩
  refine Tot.imp (Tot.mono (by omega) (s_163 (d := 0) l1 (by decide) (fun q => absurd q hf))) ?_
  rintro v s4 ⟨rfl, h4, -⟩
  have h4 := h4 hf
  subst h4
  refine ⟨rfl, ?_⟩
  refine ⟨fun _ => ?_, fun q => absurd q hf⟩
  unfold w_177_85
  refine ⟨fun _ => ?_, fun h => absurd (show (0 : Int32).toInt = 0 by decide) h⟩
  unfold w_177_93
  refine Tot.imp (Tot.mono (by omega) (s_171 (d := 0) (s := sf s 7 x1) ⟨hN.1, by have := hN.2; show (s.1 26).toInt < 12006; omega⟩)) ?_
  rintro v s5 ⟨rfl, hw⟩
  have q26 : (sf s 7 x1).1 26 = s.1 26 := rfl
  rw [q26] at hw ⊢
  have f5 : Fr (s.1 26).toInt.toNat s s5 := Fr_tr f1 (Fr_nw hw) ⟨Nat.le_refl _, rfl⟩
  have e7 : s5.1 7 = x1 := hw.2.1 7 (by decide)
  have e8 : s5.1 8 = s.1 8 := hw.2.1 8 (by decide)
  have e27 : s5.1 27 = s.1 27 := hw.2.1 27 (by decide)
  have e26 : (s5.1 26).toInt = (s.1 26).toInt + 1 := hw.1
  refine ⟨_, rfl, by omega, ?_⟩
  rintro s6 rfl
  refine ⟨by omega, ?_⟩
  rintro s7 rfl
  refine ⟨by omega, ?_⟩
  rintro s8 rfl
  have q7 : (sa (sa (sa s5 227 (s.1 26).toInt.toNat e) 228 e.toInt.toNat (s.1 26)) 223 (s.1 26).toInt.toNat (s.1 7)).1 7 = x1 := e7
  rw [q7]
  refine ⟨by unfold Rd at hR; omega, ?_⟩
  rintro x7 hx7 s9 rfl
  refine ⟨fun _ => ?_, fun h => absurd (show (0 : Int32).toInt = 0 by decide) h⟩
  unfold w_177_160
  exact ⟨rfl, Fr_sf (Fr_sa (Fr_both (Fr_sa f5 (by decide) ⟨Nat.le_refl _, rfl⟩)) (by decide) ⟨Nat.le_refl _, rfl⟩) (by decide), e8, by show x7.toInt = _; omega, e26, e27⟩
end EF
