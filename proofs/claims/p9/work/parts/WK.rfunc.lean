/-! ===== the reference: funcWords ===== -/
def fnFs (K L W ar kd : Int → Int) (TN : List Int) (t : Int) : List Int := bdF K L W ar kd TN t :: hFs K L W ar kd (h_f K L (0, (f_5 K L false (0, t)).2 + 1)) (fPa K L false (0, t)) TN (f_5 K L false (0, t)).2
section WFK
variable {d : Nat} {s s' s'' u u' : yS} {B b b0 b1 n : Int} {K L W ar kd : Int → Int} {TN : List Int} {x y t h G : Int} {a1 : Int32}
theorem cdOf_nn {v : Int} : cdOf W [] [] TN v = fIx (wEq W v) 0 TN := by
  unfold cdOf
  rw [show fIx (wEq W v) 0 [] = -1 from rfl, if_neg (by decide), if_neg (by decide)]
set_option maxHeartbeats 2000000 in
theorem x_210 (hX : TXp K L n) (hb : 0 ≤ b) (hB : 0 ≤ B) (hS : SPr K ar n (h_f K L (0, (f_5 K L false (0, t)).2 + 1)) (fPa K L false (0, t)) TN (4000 + 6 * (G - 60 * b)) (2000 + 6 * (h - 204 * b))) (h1 : a1.toInt = G) (hG : 0 ≤ G) (hh : 0 ≤ h) (hT : FNr K L B s G h x y t) (hw : wTk K n (f_2 K L false (0, t)).2) (hq0 : 0 ≤ (f_5 K L false (0, t)).2) (hp : (p_hd K L (0, (f_5 K L false (0, t)).2 + 1)).1 = 0) (hn : (p_hd K L (0, (f_5 K L false (0, t)).2 + 1)).2 ≤ n) (hv : ∀ v ∈ h_v K L (0, (f_5 K L false (0, t)).2 + 1), 0 ≤ v) (hpa : ∀ (i : Nat) (v : Int), (fPa K L false (0, t))[i]? = some v → (s.2.1 256 G.toNat).toInt + 2 * (i : Int) = B + v) (h8 : 0 ≤ (s.1 8).toInt) (h65 : (s.1 8).toInt = 0 → 10 + 4100 * (B / 4002) ≤ (s.1 65).toInt) (hR : RBh K L W ar kd n B b s TN) : Par d 210 [.ref 213, .int a1] s (fun v s' => v = none ∧ TRq B (fnFs K L W ar kd TN t) ((f_5 K L false (0, t)).2 + 1) (p_hd K L (0, (f_5 K L false (0, t)).2 + 1)).2 s s' (RHD K L B (wHd K L W ar TN (fPa K L false (0, t)) (4000 + 6 * (G - 60 * b)) b h (f_5 K L false (0, t)).2) s' (s'.1 65).toInt h (f_5 K L false (0, t)).2 ∧ (s'.2.1 261 G.toNat).toInt = fcd K L W TN t) ∧ ∀ i : Nat, ¬ i = G.toNat → s'.2.1 261 i = s.2.1 261 i) := by
  cases d with
  | zero => exact Par_0
  | succ d =>
    obtain ⟨⟨b1', b2', b3', b4', b5'⟩, c1', c2', c3'⟩ := hT
    have hLt := hX.2.2 _ hw.1 hw.2.1
    have wn := hS.2.2.1
    have ln := hS.2.2.2.1.2.2
    refine pb_210 ?_
    unfold ub_210_0
    refine ⟨fun z0 => ?_, fun z0 => ?_⟩
    · have h0 : (s.1 8).toInt = 0 := by omega
      refine Par.imp x_206 ?_
      rintro v2 s1 ⟨rfl, hs1⟩
      refine ⟨rfl, ?_⟩
      have er : s1.2 = s.2 := by rw [hs1]; rfl
      have fs1 : ∀ k, ¬ k = 76 → ¬ k = 77 → ¬ k = 78 → s1.1 k = s.1 k := fun k z1 z2 z3 => by rw [hs1, sfr_1, if_neg z3, sfr_1, if_neg z2, sfr_1, if_neg z1]
      have e76 : (s1.1 76).toInt = -1 := by rw [hs1, sfr_1, if_neg (by decide), sfr_1, if_neg (by decide), sfr_1, if_pos rfl]; decide
      have e77 : (s1.1 77).toInt = -1 := by rw [hs1, sfr_1, if_neg (by decide), sfr_1, if_pos rfl]; decide
      have e78 : (s1.1 78).toInt = -1 := by rw [hs1, sfr_1, if_pos rfl]; decide
      have R1 : RBh K L W ar kd n B b s1 TN := RBh_W (fun p _ _ _ _ => by rw [er]) (fs1 75 (by decide) (by decide) (by decide)) hR
      clear hs1
      rw [h1, er, b2']
      intro _ _
      refine Par.imp (x_203 (n := n) (K := K) (t := (f_2 K L false (0, t)).2) (hf := []) (tp := []) (b0 := 1000) (b1 := 1000) R1.2.1 hb ⟨R1.1, Or.inl ⟨by omega, rfl⟩, Or.inr (Or.inr ⟨by omega, by omega, rfl⟩)⟩ R1.2.2.2.1 hw (by unfold wRf; rw [er]) (fun v hv' => absurd hv' List.not_mem_nil) (fun v hv' => absurd hv' List.not_mem_nil) wn (by decide) (by decide) ln) ?_
      rintro v4 s3 ⟨hs3, x5, rfl, hx5⟩
      rw [hs3]
      clear hs3
      refine ⟨x5, rfl, ?_⟩
      rw [cdOf_nn] at hx5
      have hbl := fIx_lt (p := wEq W (f_2 K L false (0, t)).2) (l := TN)
      have hc : x5.toInt = fcd K L W TN t := by
        rw [hx5]
        unfold rhC
        rw [if_pos (by omega)]
        rfl
      have hcb : -1 ≤ fcd K L W TN t ∧ fcd K L W TN t < (TN.length : Int) := hbl
      have e8 : (s1.1 8).toInt = 0 := by rw [fs1 8 (by decide) (by decide) (by decide)]; exact h0
      have e65 : s1.1 65 = s.1 65 := fs1 65 (by decide) (by decide) (by decide)
      -- from here on, with the fault φ of the NAME
      have rest : ∀ z : yS, z.2 = s1.2 → (∀ k, ¬ k = 8 → z.1 k = s1.1 k) → (z.1 8).toInt = bdF K L W ar kd TN t → 0 ≤ bdF K L W ar kd TN t → ub_210_68 (Par d) a1 x5 z (fun v s' => v = none ∧ TRq B (fnFs K L W ar kd TN t) ((f_5 K L false (0, t)).2 + 1) (p_hd K L (0, (f_5 K L false (0, t)).2 + 1)).2 s s' (RHD K L B (wHd K L W ar TN (fPa K L false (0, t)) (4000 + 6 * (G - 60 * b)) b h (f_5 K L false (0, t)).2) s' (s'.1 65).toInt h (f_5 K L false (0, t)).2 ∧ (s'.2.1 261 G.toNat).toInt = fcd K L W TN t) ∧ ∀ i : Nat, ¬ i = G.toNat → s'.2.1 261 i = s.2.1 261 i) := by
        intro z hz1 hz2 hz3 hz4
        unfold ub_210_68
        rw [h1]
        intro _ s4 hs4 _
        have e4 : s4.1 = z.1 := by rw [hs4]; rfl
        have r4 : ∀ p, ¬ p = 261 → s4.2.1 p = s.2.1 p := fun p hp' => by
          funext i
          rw [hs4, sa_21, if_neg (fun e => hp' e.1), hz1, er]
        have r261 : (s4.2.1 261 G.toNat).toInt = fcd K L W TN t := by
          rw [hs4, sa_21, if_pos ⟨rfl, rfl⟩]
          exact hc
        have o261 : ∀ i : Nat, ¬ i = G.toNat → s4.2.1 261 i = s.2.1 261 i := fun i hi => by rw [hs4, sa_21, if_neg (fun e => hi e.2), hz1, er]
        have l4 : s4.2.2 = s.2.2 := by rw [hs4]; show z.2.2 = _; rw [hz1, er]
        have f75 : s4.1 75 = s.1 75 := by rw [e4, hz2 75 (by decide), fs1 75 (by decide) (by decide) (by decide)]
        have f65 : s4.1 65 = s.1 65 := by rw [e4, hz2 65 (by decide), e65]
        have f8 : (s4.1 8).toInt = bdF K L W ar kd TN t := by rw [e4]; exact hz3
        have R4 : RBh K L W ar kd n B b s4 TN := RBh_W (fun p _ _ _ z4 => r4 p z4) f75 hR
        have rows4 : ∀ p, ¬ p = 231 → ¬ p = 232 → ¬ p = 264 → ¬ p = 261 → s4.2.1 p = s.2.1 p := fun p _ _ _ z4 => r4 p z4
        have hP : SCp B b s4 (-1 : Int32).toInt a1.toInt (fPa K L false (0, t)) (4000 + 6 * (G - 60 * b)) := by
          refine Or.inr (Or.inl ⟨by decide, by omega, ?_, ?_, by rw [h1]⟩)
          · rw [r4 255 (by decide), h1]
            exact b3'
          · rw [r4 256 (by decide), h1]
            exact hpa
        have i257 : (s4.2.1 257 G.toNat).toInt = h := by
          rw [r4 257 (by decide)]
          exact c1'
        have F4 : RWf B ((f_5 K L false (0, t)).2 + 1) (p_hd K L (0, (f_5 K L false (0, t)).2 + 1)).2 (s.1 65).toInt s s4 := ⟨fun k w1 w2 w3 w4 w5 => by rw [e4, hz2 k w1, fs1 k w3 w4 w5], l4, fun p _ _ _ z4 => r4 p z4, fun p i hp' _ => by rw [r4 p (by omega)], fun i _ => by rw [r4 264 (by decide)]⟩
        refine Par.imp (x_208 (s := s4) (h := h) (q := (f_5 K L false (0, t)).2) (kd := kd) (W := W) hX hb hB rfl hS R4.2.2.2.2.2 i257 hh (HDr_W rows4 c2') hq0 hp hn hv (by rw [f8]; exact hz4) (fun _ => by rw [f65]; exact h65 h0) R4.1 hP rfl R4.2.1 R4.2.2.1 R4.2.2.2.1 R4.2.2.2.2.1) ?_
        rintro v3 s5 ⟨rfl, g1, g2, g3, g4, g5, g6⟩
        have f65t : (s4.1 65).toInt = (s.1 65).toInt := by rw [f65]
        refine ⟨rfl, rfl, ⟨RWf_tr F4 g1 (Int.le_refl _) (Int.le_refl _) (by omega), ?_, g4, fun h9 => ?_, fun h9 => absurd h0 h9⟩, fun i hi => ?_⟩
        · rw [g3, f8, h0]
          unfold fnFs
          show _ = if (0 : Int) = 0 then _ else _
          rw [if_pos rfl]
        · obtain ⟨g7, g8, g9⟩ := g5 h9
          refine ⟨by omega, by omega, g9, ?_⟩
          rw [g2]
          exact r261
        · rw [g2]
          exact o261 i hi
      -- the NAME's own fault
      have bad : ∀ y' : Int32, (y'.toInt = 2 ∨ y'.toInt = 4 ∨ y'.toInt = 6) → bdF K L W ar kd TN t = y'.toInt + 16 * L (f_2 K L false (0, t)).2 → Par d 163 [.ref 213, .int y', .int (s1.2.1 254 G.toNat)] s1 (fun v11 s10 => v11 = none ∧ ub_210_68 (Par d) a1 x5 s10 (fun v s' => v = none ∧ TRq B (fnFs K L W ar kd TN t) ((f_5 K L false (0, t)).2 + 1) (p_hd K L (0, (f_5 K L false (0, t)).2 + 1)).2 s s' (RHD K L B (wHd K L W ar TN (fPa K L false (0, t)) (4000 + 6 * (G - 60 * b)) b h (f_5 K L false (0, t)).2) s' (s'.1 65).toInt h (f_5 K L false (0, t)).2 ∧ (s'.2.1 261 G.toNat).toInt = fcd K L W TN t) ∧ ∀ i : Nat, ¬ i = G.toNat → s'.2.1 261 i = s.2.1 261 i)) := by
        intro y' hy hb2
        refine Par.imp (x_163w (B := B) (t := (f_2 K L false (0, t)).2) (φ := 0) (L := L) (by rw [er]; exact b2') e8 (by rw [er]; exact (hR.2.2.1 _ hw.1 hw.2.1).2)) ?_
        rintro v11 s10 ⟨rfl, p1, p2⟩
        rw [if_pos rfl] at p2
        exact ⟨rfl, rest s10 p1.1 p1.2 (by rw [p2, hb2]) (by rw [hb2]; omega)⟩
      rw [R1.1]
      refine ⟨fun y0 _ x6 hx6 _ x7 hx7 _ => ?_, fun y0 _ => ?_⟩
      · have hc0 : 0 ≤ fcd K L W TN t := by omega
        have e7 : x7.toInt = 24 * b + fcd K L W TN t := by omega
        have k235 : (s1.2.1 235 x7.toInt.toNat).toInt = (s.2.1 235 (24 * b + fcd K L W TN t).toNat).toInt := by rw [er, e7]
        rw [k235]
        have hkd := hR.2.2.2.2.2.1 (fcd K L W TN t) hc0 hcb.2
        refine ⟨fun y1 _ x8 hx8 _ x9 hx9 _ _ => ?_, fun y1 _ => ?_⟩
        · have hk1 : kd (fcd K L W TN t) = 1 := by
            rcases hkd with ⟨k1, -⟩ | ⟨-, k2⟩
            · exact k1
            · exact absurd k2 y1
          have e9 : x9.toInt = 24 * b + fcd K L W TN t := by omega
          have k236 : (s1.2.1 236 x9.toInt.toNat).toInt = ar (fcd K L W TN t) := by
            rw [er, e9]
            exact hR.2.2.2.2.1 _ hc0 hcb.2
          have k255 : (s1.2.1 255 G.toNat).toInt = ((fPa K L false (0, t)).length : Int) := by rw [er]; exact b3'
          rw [k236, k255]
          refine ⟨fun y2 => ?_, fun y2 _ => ?_⟩
          · have hb0 : bdF K L W ar kd TN t = 0 := by
              unfold bdF
              rw [if_neg (by omega), if_neg (fun e => e hk1), if_neg (fun e => e y2)]
            exact rest s1 rfl (fun _ _ => rfl) (by rw [hb0]; exact e8) (by rw [hb0]; exact Int.le_refl _)
          · refine bad 4 (Or.inr (Or.inl (by decide))) ?_
            unfold bdF
            rw [if_neg (by omega), if_neg (fun e => e hk1), if_pos y2]
            rfl
        · refine bad 6 (Or.inr (Or.inr (by decide))) ?_
          have hk2 : ¬ kd (fcd K L W TN t) = 1 := by
            rcases hkd with ⟨-, k2⟩ | ⟨k1, -⟩
            · omega
            · rw [k1]
              decide
          unfold bdF
          rw [if_neg (by omega), if_pos hk2]
          rfl
      · refine bad 2 (Or.inl (by decide)) ?_
        unfold bdF
        rw [if_pos (by omega)]
        rfl
    · have h0 : ¬ (s.1 8).toInt = 0 := by omega
      refine ⟨rfl, ⟨RWf_rf, ?_, h8, fun h9 => absurd h9 h0, fun _ => ⟨fun _ _ => rfl, rfl⟩⟩, fun _ _ => rfl⟩
      show _ = if (s.1 8).toInt = 0 then _ else (s.1 8).toInt
      rw [if_neg h0]
end WFK
