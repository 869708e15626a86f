/-! ===== the reference: a slot, boundWords ===== -/
/-- a slot's fault: k its kind -/
def tF (K L W ar kd : Int → Int) (hf tp TN : List Int) (k t : Int) : Int := if (tlT K L (cdOf W hf tp TN) ar 10 t).1 = 0 then (if k = 0 ∧ ¬ kd (cdOf W hf tp TN t) = 2 then 6 + 16 * L t else 0) else (tlT K L (cdOf W hf tp TN) ar 10 t).1
/-- a scope in order -/
def SPr (K ar : Int → Int) (n : Int) (hf tp TN : List Int) (b0 b1 : Int) : Prop := (∀ u ∈ hf, wTk K n u) ∧ (∀ u ∈ tp, wTk K n u) ∧ (∀ u ∈ TN, wTk K n u) ∧ (hf.length ≤ 6 ∧ tp.length ≤ 6 ∧ TN.length ≤ 24) ∧ (1000 ≤ b0 ∧ 1000 ≤ b1) ∧ (∀ c : Int, 24 ≤ c → ar c = 0) ∧ ∀ c : Int, 0 ≤ ar c ∧ ar c ≤ 7
/-- what sort a type is, in the reference -/
def KDr (b : Int) (s : yS) (kd : Int → Int) (TN : List Int) : Prop := (∀ c : Int, 0 ≤ c → c < (TN.length : Int) → (kd c = 1 ∧ (s.2.1 235 (24 * b + c).toNat).toInt = 1) ∨ (kd c = 2 ∧ (s.2.1 235 (24 * b + c).toNat).toInt = 0)) ∧ ∀ c : Int, (c < 0 ∨ (TN.length : Int) ≤ c) → kd c = 0
section WRL
variable {d : Nat} {s s' s'' : yS} {B b b0 b1 n : Int} {K L W ar kd : Int → Int} {hf tp TN : List Int} {lo hi a x y t : Int} {a1 : Int32}
theorem tlS_le {f : Int → Int × List (Int × Int)} {nx : Int → Int} : ∀ (k : Nat) (u : Int), (∀ i, i < k → ((f (uS nx u i)).2.length : Int) ≤ nx (uS nx u i) - uS nx u i) → ((tlS f nx k u).2.length : Int) ≤ uS nx u k - u
  | 0, u, h => by
    show ((0 : Nat) : Int) ≤ u - u
    omega
  | k + 1, u, h => by
    have h0 := h 0 (by omega)
    have h0' : ((f u).2.length : Int) ≤ nx u - u := h0
    have ih := tlS_le k (nx u + 1) (fun i hi2 => by rw [uS_s]; exact h (i + 1) (by omega))
    rw [uS_s] at ih
    rw [tlS_s]
    split
    · split
      · show (((f u).2 ++ (tlS f nx k (nx u + 1)).2).length : Int) ≤ _
        rw [List.length_append]
        omega
      · show ((0 : Nat) : Int) ≤ _
        omega
    · show ((0 : Nat) : Int) ≤ _
      omega
theorem tlT_le {cd : Int → Int} : ∀ (m : Nat) (t : Int), m ≤ 10 → (p_t K L m false (0, t)).1 = 0 → ((tlT K L cd ar m t).2.length : Int) ≤ nxT K L t - t
  | 0, t, _, hp => absurd (show (e_f K L true (0, t)).1 = 0 from hp) (fun q => ef_t q)
  | m + 1, t, hm, hp => by
    obtain ⟨u1, u2, u3⟩ := pt_u (m := m) (by omega) hp
    have hfw := (pt_fw (m + 1) _ _ hp).2
    have hnx := (pt_g (m + 1) (by omega) false t hp).2.2
    rw [← hnx] at hfw
    have hfw' : t < nxT K L t := hfw
    have hS : ((tlS (tlT K L cd ar m) (nxT K L) (ntc K L t) (t + 2)).2.length : Int) + 1 ≤ nxT K L t - t := by
      unfold ntc
      by_cases hk : K (t + 1) = 91
      · rw [if_pos hk]
        obtain ⟨v1, v2, v3⟩ := u2 hk
        have := tlS_le (f := tlT K L cd ar m) (nx := nxT K L) (NT K L (t + 1)) (t + 2) (fun i hi2 => tlT_le m _ (by omega) (v2 i hi2))
        rw [hnx, v3]
        show _ ≤ uS (nxT K L) (t + 2) (NT K L (t + 1)) - t
        omega
      · rw [if_neg hk]
        show ((0 : Nat) : Int) + 1 ≤ _
        omega
    rw [tlT]
    split
    · show ((0 : Nat) : Int) ≤ _
      omega
    · split
      · show ((0 : Nat) : Int) ≤ _
        omega
      · split
        · split
          · show ((0 : Nat) : Int) ≤ _
            omega
          · rw [List.length_cons]
            omega
        · show ((0 : Nat) : Int) ≤ _
          omega
/-- resolve of a slot -/
theorem x_204s (hX : TXp K L n) (hb : 0 ≤ b) (hB : 0 ≤ B) (hS : SPr K ar n hf tp TN b0 b1) (h1 : a1.toInt = x) (ht : 0 ≤ t) (hp : (p_t K L 10 false (0, t)).1 = 0) (hn : nxT K L t ≤ n) (hT : yT K L B s 10 x y t) (h8 : 0 ≤ (s.1 8).toInt) (h65 : 10 + 4100 * (B / 4002) ≤ (s.1 65).toInt) (hH : RVh K L W ar n B b b0 b1 s hf tp TN) : Par d 204 [.ref 213, .int a1, .int 0] s (fun v s' => v = none ∧ RSq K L B (wdT K L (cdOf W hf tp TN) ar b0 b1) t x (tlT K L (cdOf W hf tp TN) ar 10 t).1 s s') := by
  obtain ⟨s1, s2, s3, ⟨s4, s5, s6⟩, ⟨s7, s8⟩, s9, s10⟩ := hS
  have hnx := (pt_g 10 (by omega) false t hp).2.2
  have hfw := (pt_fw 10 _ _ hp).2
  rw [← hnx] at hfw
  have hfw' : t < nxT K L t := hfw
  by_cases h0 : (s.1 8).toInt = 0
  · refine Par.imp (x_204 (W := W) (hf := hf) (tp := tp) (TN := TN) (ar := ar) hX hb hB s1 s2 s3 s4 s5 s6 s7 s8 s9 10 (Nat.le_refl _) d a1 0 x y t (s.1 65).toInt s h1 (by decide) ht hp (by rw [← hnx]; exact hn) hT h0 rfl (by omega) hH) ?_
    rintro v s' ⟨rfl, r1, r2, r3⟩
    have hW := RVf_W r1 hT hp
    refine ⟨rfl, hW, ⟨r1.1 76 (by decide) (by decide), r1.1 77 (by decide) (by decide), r1.1 78 (by decide) (by decide)⟩, r1.2.2.1 261 (by decide) (by decide) (by decide), by rw [if_pos h0]; exact r2, fun h => ?_⟩
    rw [r2] at h
    obtain ⟨r4, r5, r6, r7⟩ := r3 h
    have hl := tlT_le (cd := cdOf W hf tp TN) (ar := ar) 10 t (Nat.le_refl _) hp
    refine ⟨⟨y, yT_eq 10 _ _ _ hT ⟨fun p i hq _ _ => by rw [r1.2.2.1 p (by omega) (by omega) (by omega)], fun i _ _ => by rw [r1.2.2.1 225 (by decide) (by decide) (by decide)]⟩, r5, fun j j1 j2 => by rw [r4]; exact (r6 j j1 j2).2, fun j j1 j2 => by have := (r6 j j1 j2).1; omega⟩, by omega, by omega⟩
  · cases d with
    | zero => exact Par_0
    | succ d =>
      refine pb_204 ?_
      unfold ub_204_0
      refine ⟨fun q => by omega, fun _ => ⟨rfl, RWf_rf, ⟨rfl, rfl, rfl⟩, rfl, by rw [if_neg h0], fun h => absurd h h0⟩⟩
theorem rhE_d {c : Int} (ha : 0 ≤ ar c ∧ ar c ≤ 7) : rhE ar b0 b1 c / 8 = rhC b0 b1 c := by
  unfold rhE
  omega
set_option maxHeartbeats 1000000 in
/-- boundWords -/
theorem x_207 (hX : TXp K L n) (hb : 0 ≤ b) (hB : 0 ≤ B) (hS : SPr K ar n hf tp TN b0 b1) (hK : KDr b s kd TN) (h1 : a1.toInt = x) (ht : 0 ≤ t) (hp : (p_t K L 10 false (0, t)).1 = 0) (hn : nxT K L t ≤ n) (hT : yT K L B s 10 x y t) (h8 : 0 ≤ (s.1 8).toInt) (h65 : 10 + 4100 * (B / 4002) ≤ (s.1 65).toInt) (hH : RVh K L W ar n B b b0 b1 s hf tp TN) : Par d 207 [.ref 213, .int a1] s (fun v s' => v = none ∧ RSq K L B (wdT K L (cdOf W hf tp TN) ar b0 b1) t x (tF K L W ar kd hf tp TN 0 t) s s') := by
  cases d with
  | zero => exact Par_0
  | succ d =>
    have hS' := hS
    obtain ⟨s1, s2, s3, ⟨s4, s5, s6⟩, ⟨s7, s8⟩, s9, s10⟩ := hS'
    have hnx := (pt_g 10 (by omega) false t hp).2.2
    have hfw := (pt_fw 10 _ _ hp).2
    rw [← hnx] at hfw
    have hfw' : t < nxT K L t := hfw
    have hLt := hX.2.2 t ht (by omega)
    have hx0 : 0 ≤ x := hT.1.1
    refine pb_207 ?_
    unfold ub_207_0
    refine Par.imp (x_204s hX hb hB hS h1 ht hp hn hT h8 h65 hH) ?_
    rintro v2 s1' ⟨rfl, r1, r2, r3, r4, r5⟩
    refine ⟨rfl, ?_⟩
    have cb := cdOf_b (W := W) (t := t) s4 s5 s6
    generalize hR : tlT K L (cdOf W hf tp TN) ar 10 t = R at *
    -- the end, without a fault of its own
    have fin : ((s1'.1 8).toInt = (if (s.1 8).toInt = 0 then tF K L W ar kd hf tp TN 0 t else (s.1 8).toInt)) → ∀ z : yS, z = s1' → ub_207_41 (Par d) a1 z (fun v s' => v = none ∧ RSq K L B (wdT K L (cdOf W hf tp TN) ar b0 b1) t x (tF K L W ar kd hf tp TN 0 t) s s') := by
      intro hf8 z hz
      rw [hz]
      exact ⟨rfl, r1, r2, r3, hf8, r5⟩
    refine ⟨fun w1 => fin ?_ _ rfl, fun w1 => ?_⟩
    · rw [r4]
      rw [r4] at w1
      by_cases h0 : (s.1 8).toInt = 0
      · rw [if_pos h0] at w1 ⊢
        rw [if_pos h0]
        unfold tF
        rw [hR, if_neg w1]
      · rw [if_neg h0, if_neg h0]
    · have h0 : (s.1 8).toInt = 0 := by
        rw [r4] at w1
        by_cases h0 : (s.1 8).toInt = 0
        · exact h0
        · rw [if_neg h0] at w1
          exact w1
      have hR0 : R.1 = 0 := by
        rw [r4, if_pos h0] at w1
        exact w1
      obtain ⟨⟨y', q1, q2, q3⟩, -, -⟩ := r5 w1
      obtain ⟨hc0, ⟨l, hl⟩, -⟩ := tlT_hd (K := K) (L := L) (ar := ar) (cd := cdOf W hf tp TN) (m := 9) (t := t) (by show (tlT K L _ ar 10 _).1 = 0; rw [hR]; exact hR0)
      have hl' : (tlT K L (cdOf W hf tp TN) ar 10 t).2 = (cdOf W hf tp TN t, t) :: l := hl
      have hsn := q2.2.2.1
      have hel : (s1'.2.1 264 (s1'.2.1 231 x.toNat).toInt.toNat).toInt = rhE ar b0 b1 (cdOf W hf tp TN t) := by
        have := hsn.2.2 0 (rhE ar b0 b1 (cdOf W hf tp TN t)) (by
          show (wdT K L (cdOf W hf tp TN) ar b0 b1 10 t)[0]? = _
          unfold wdT
          rw [hl']
          rfl)
        rw [show (s1'.2.1 231 x.toNat).toInt + ((0 : Nat) : Int) = (s1'.2.1 231 x.toNat).toInt by omega] at this
        exact this
      have htF : tF K L W ar kd hf tp TN 0 t = if ¬ kd (cdOf W hf tp TN t) = 2 then 6 + 16 * L t else 0 := by
        unfold tF
        rw [hR, if_pos hR0]
        by_cases hk : ¬ kd (cdOf W hf tp TN t) = 2
        · rw [if_pos ⟨rfl, hk⟩, if_pos hk]
        · rw [if_neg (fun e => hk e.2), if_neg hk]
      have har := s10 (cdOf W hf tp TN t)
      -- wrong 6
      have bad : ¬ kd (cdOf W hf tp TN t) = 2 → ∀ z : yS, z = s1' → ub_207_34 (Par d) a1 z (fun v s' => v = none ∧ RSq K L B (wdT K L (cdOf W hf tp TN) ar b0 b1) t x (tF K L W ar kd hf tp TN 0 t) s s') := by
        intro hk z hz
        rw [hz]
        unfold ub_207_34
        rw [h1]
        intro _
        refine Par.imp (x_163w (B := B) (t := t) (φ := 0) (L := L) q1.2.2.1 w1 ?_) ?_
        · rw [RWf_r r1 (p := 216) (by decide) (by decide) (by decide) (by decide)]
          exact (hH.2.1 t ht (by omega)).2
        · rintro v3 s3' ⟨rfl, p1, p2⟩
          rw [if_pos rfl, show (6 : Int32).toInt = 6 by decide] at p2
          refine ⟨rfl, rfl, RWf_tr r1 (RWf_8 (lo := t) (hi := nxT K L t) p1) (Int.le_refl _) (Int.le_refl _) (Int.le_refl _), ⟨(p1.2 76 (by decide)).trans r2.1, (p1.2 77 (by decide)).trans r2.2.1, (p1.2 78 (by decide)).trans r2.2.2⟩, by rw [p1.1]; exact r3, ?_, fun h => by omega⟩
          rw [if_pos h0, htF, if_pos hk]
          exact p2
      rw [h1]
      intro _ _
      cases d with
      | zero => exact Par_0
      | succ d =>
      refine pb_185 ?_
      unfold ub_185_0
      rw [hel]
      intro hpos x5 hx5
      rw [rhE_d har] at hx5
      have hrc2 : ¬ cdOf W hf tp TN t < 24 → 1000 ≤ rhC b0 b1 (cdOf W hf tp TN t) := fun h => by
        unfold rhC
        rw [if_neg h]
        split
        · omega
        · split
          · omega
          · omega
      have hrc3 : cdOf W hf tp TN t < 24 → rhC b0 b1 (cdOf W hf tp TN t) = cdOf W hf tp TN t := fun h => by
        unfold rhC
        rw [if_pos h]
      refine ⟨x5, rfl, fun w2 => bad ?_ _ rfl, fun w2 => ?_⟩
      · have : ¬ cdOf W hf tp TN t < 24 := fun h => by
          have := hrc3 h
          omega
        rw [hK.2 _ (Or.inr (by omega))]
        decide
      · have hc24 : cdOf W hf tp TN t < 24 := by
          rcases Int.lt_or_le (cdOf W hf tp TN t) 24 with h | h
          · exact h
          · have := hrc2 (by omega)
            omega
        have hrc := hrc3 hc24
        have h75 : (s1'.1 75).toInt = b := by
          rw [r1.1 75 (by decide) (by decide) (by decide) (by decide) (by decide)]
          exact hH.2.2.1.1
        rw [h75]
        intro _ x6 hx6 _ _
        refine pb_185 ?_
        unfold ub_185_0
        rw [hel]
        intro _ x9 hx9
        rw [rhE_d har, hrc] at hx9
        refine ⟨x9, rfl, fun _ x10 hx10 _ => ?_⟩
        have e235 : (s1'.2.1 235 x10.toInt.toNat).toInt = (s.2.1 235 (24 * b + cdOf W hf tp TN t).toNat).toInt := by
          rw [RWf_r r1 (p := 235) (by decide) (by decide) (by decide) (by decide), show x10.toInt = 24 * b + cdOf W hf tp TN t by omega]
        rw [e235]
        rcases hK.1 (cdOf W hf tp TN t) hc0 (cb.2.2.2 hc24) with ⟨k1, k2⟩ | ⟨k1, k2⟩
        · rw [k2]
          exact ⟨fun e => absurd e (by decide), fun _ => bad (by rw [k1]; decide) _ rfl⟩
        · rw [k2]
          refine ⟨fun _ => fin ?_ _ rfl, fun e => absurd rfl e⟩
          rw [if_pos h0, htF, if_neg (fun e => e k1)]
          exact w1
end WRL
