/-! ===== cutAll ===== -/
theorem s_162 {d b W0 : Nat} {s : yS} (hb : b < 3) (e9 : (s.1 9).toInt = (b : Int)) (ht : 0 ≤ (s.1 2).toInt ∧ (s.1 2).toInt ≤ 4000) (hW0 : (s.2.1 220 b).toInt = (W0 : Int)) (hW1 : W0 ≤ 39) (hK0 : WKp b W0 s.2.2) : Tot (d + 2) 162 [.ref 213] s (fun v s' => v = none ∧ (s'.1 7).toInt = 4002 * (b : Int) ∧ (s'.1 8).toInt = 0 ∧ (s'.1 2).toInt = 0 ∧ (∀ k, k ∉ [2, 3, 7, 8] → s'.1 k = s.1 k) ∧ CF b s s' ∧ ∃ n W : Nat, Lx b n W s' ∧ (s'.2.1 220 b).toInt = (W : Int) ∧ WKp b W s'.2.2) := by
  have e0 : (0 : Int32).toInt = 0 := by decide
  refine t_162 ?_
  unfold w_162_0
  rintro s1 rfl s2 rfl
  obtain ⟨s0, hs0⟩ : ∃ s0, s0 = sf (sf s 3 (s.1 2)) 2 0 := ⟨_, rfl⟩
  rw [← hs0]
  have f3 : s0.1 3 = s.1 2 := by rw [hs0]; rfl
  have f9 : s0.1 9 = s.1 9 := by rw [hs0]; rfl
  have f2 : s0.1 2 = 0 := by rw [hs0]; rfl
  have r0 : s0.2 = s.2 := by rw [hs0]; rfl
  have fk : ∀ k, k ∉ [2, 3, 7, 8] → s0.1 k = s.1 k := by
    intro k hk
    rw [hs0, sf_1, if_neg (fun e => hk (by rw [e]; decide)), sf_1, if_neg (fun e => hk (by rw [e]; decide))]
  have e9' : (s0.1 9).toInt = (b : Int) := by rw [f9]; exact e9
  have hsz : (s0.1 3).toInt ≤ 4000 := by rw [f3]; exact ht.2
  refine ⟨by omega, fun x3 hx3 => ?_⟩
  unfold wl_162_14
  refine ⟨CI b s0, fun _ a2 _ => (4000 - a2.toInt).toNat, ⟨rfl, CF_rf, by rw [e0]; decide, by rw [e0, f3]; exact ht.1, 0, W0, by omega, by rw [e0]; decide, by rw [r0]; exact hW0, ⟨fun j hj => by omega, by rw [r0]; exact hK0⟩, Or.inl (by rw [e0]; omega)⟩, ?_⟩
  rintro a1 a2 t ⟨h1, hF, h3, h4, i, W, ha1, hi, hW, ⟨hC, hK⟩, hpot⟩
  have e14 : t.2.1 214 = s0.2.1 214 := hF.1 214 (by decide)
  have et3 : t.1 3 = s0.1 3 := by rw [h1]
  have en : a1.toInt.toNat = 4002 * b + i := by omega
  have hin : 4002 * b ≤ 4002 * b + i ∧ 4002 * b + i < 4002 * b + 4002 := by omega
  have hpot' : 2 * (W : Int) ≤ 79 + a2.toInt := by
    rcases hpot with h | h
    · omega
    · exact h.1
  unfold w_162_14 w_162_29 w_162_144 w_162_151
  rw [et3, e14, en]
  refine ⟨fun hz => ⟨by omega, ?_⟩, fun hz => ⟨by omega, ?_⟩⟩
  · rintro s1 rfl
    refine ⟨by omega, ?_⟩
    rintro s2 rfl
    refine ⟨by omega, ?_⟩
    rintro s3 rfl
    simp only [sa_1]
    rw [h1]
    refine ⟨by omega, fun x4 hx4 => ?_⟩
    rintro s5 rfl s6 rfl
    have F : CF b s0 (sa (sa (sa t 215 (4002 * b + i) 0) 216 (4002 * b + i) (s0.1 3)) 217 (4002 * b + i) (-1)) := CF_sa (CF_sa (CF_sa hF (by decide) hin) (by decide) hin) (by decide) hin
    refine ⟨trivial, by show x4.toInt = _; omega, e0, by show (t.1 2).toInt = 0; rw [h1, f2]; exact e0, fun k hk => ?_, ⟨fun p hp => by rw [← r0]; exact F.1 p hp, fun p j hp hj => by rw [← r0]; exact F.2.1 p j hp hj, fun q hq => by rw [← r0]; exact F.2.2.1 q hq, fun q j hj => by rw [← r0]; exact F.2.2.2 q j hj⟩, i, W, ?_, ?_, hK⟩
    · rw [sf_1, if_neg (fun e => hk (by rw [e]; decide)), sf_1, if_neg (fun e => hk (by rw [e]; decide)), sa_1, sa_1, sa_1, h1]
      exact fk k hk
    · refine ⟨hb, by omega, by omega, fun j hj => ?_, ?_, fun j hj => ?_⟩
      · simp only [sf_2, sa_2]
        rw [if_neg (fun e => by omega)]
        by_cases e : j = i
        · rw [if_pos ⟨trivial, by omega⟩, f3]
          exact ht
        · rw [if_neg (fun q => by omega), if_neg (fun q => by omega)]
          exact (hC j (by omega)).1
      · simp only [sf_2, sa_2]
        rw [if_neg (fun e => by omega), if_neg (fun e => by omega), if_pos ⟨trivial, trivial⟩]
        exact e0
      · simp only [sf_2, sa_2]
        rw [if_neg (fun e => by omega), if_neg (fun e => by omega), if_neg (fun e => by omega), if_neg (fun e => by omega), if_neg (fun e => by omega), if_neg (fun e => by omega)]
        exact (hC j hj).2
    · simp only [sf_2, sa_2]
      rw [if_neg (fun e => by omega), if_neg (fun e => by omega), if_neg (fun e => by omega)]
      exact hW
  · have sp : (-2147483648 ≤ a2.toInt + 1 ∧ a2.toInt + 1 ≤ 2147483647) ∧ (∀ x1 : Int32, x1.toInt = a2.toInt + 1 → CI b s0 a1 x1 t ∧ (4000 - x1.toInt).toNat < (4000 - a2.toInt).toNat) := ⟨by omega, fun x1 hx1 => ⟨⟨h1, hF, by omega, by omega, i, W, ha1, by omega, hW, ⟨hC, hK⟩, Or.inl (by omega)⟩, by omega⟩⟩
    refine ⟨fun _ => sp, fun _ => ⟨fun _ => ⟨by omega, ?_⟩, fun _ => sp⟩⟩
    rintro s7 rfl
    have F7 : CF b s0 (sa t 216 (4002 * b + i) a2) := CF_sa hF (by decide) hin
    have r7 : ∀ p, p ≠ 216 → (sa t 216 (4002 * b + i) a2).2.1 p = t.2.1 p := by
      intro p hp
      funext j
      rw [sa_2, if_neg (fun e => hp e.1)]
    have C7 : CT b i W (sa t 216 (4002 * b + i) a2) := by
      intro j hj
      have := hC j hj
      rw [sa_2, if_neg (fun e => by omega), r7 215 (by decide), r7 217 (by decide)]
      exact this
    refine Tot.imp s_156 ?_
    rintro v s8 ⟨rfl, r, rfl, hr⟩
    refine ⟨r, rfl, fun h0 => ?_, fun h0 => ?_⟩
    · refine Tot.imp s_159 ?_
      rintro v s11 ⟨rfl, r2, rfl⟩
      have key : ∀ t2 : Int32, ¬ t2.toInt = 1 → (0 ≤ a1.toInt ∧ a1.toInt < 12006) ∧ (∀ s1, s1 = sa (sa t 216 (4002 * b + i) a2) 215 (4002 * b + i) t2 → (0 ≤ a1.toInt ∧ a1.toInt < 12006) ∧ (∀ s2, s2 = sa s1 217 (4002 * b + i) (s0.2.1 214 a2.toInt.toNat) → (-2147483648 ≤ a2.toInt + 1 ∧ a2.toInt + 1 ≤ 2147483647) ∧ (∀ x3 : Int32, x3.toInt = a2.toInt + 1 → (-2147483648 ≤ a1.toInt + 1 ∧ a1.toInt + 1 ≤ 2147483647) ∧ (∀ x1 : Int32, x1.toInt = a1.toInt + 1 → CI b s0 x1 x3 s2 ∧ (4000 - x3.toInt).toNat < (4000 - a2.toInt).toNat)))) := by
        intro t2 h2
        refine ⟨by omega, ?_⟩
        rintro s1 rfl
        refine ⟨by omega, ?_⟩
        rintro s2 rfl
        refine ⟨by omega, fun x3 hx3 => ⟨by omega, fun x1 hx1 => ⟨⟨h1, CF_sa (CF_sa F7 (by decide) hin) (by decide) hin, by omega, by omega, i + 1, W, by omega, by omega, ?_, ⟨?_, hK⟩, Or.inl (by omega)⟩, by omega⟩⟩⟩
        · simp only [sa_2]
          rw [if_neg (fun e => by omega), if_neg (fun e => by omega), if_neg (fun e => by omega)]
          exact hW
        · refine CT_more (s := t) hC (Nat.le_refl _) (fun p _ j hj => ?_) ?_ (fun q => ?_)
          · simp only [sa_2]
            rw [if_neg (fun e => hj e.2), if_neg (fun e => hj e.2), if_neg (fun e => hj e.2)]
          · simp only [sa_2]
            rw [if_neg (fun e => by omega), if_neg (fun e => by omega), if_pos ⟨trivial, trivial⟩]
            omega
          · simp only [sa_2] at q
            rw [if_neg (fun e => by omega), if_pos ⟨trivial, trivial⟩] at q
            exact absurd q h2
      exact ⟨r2, rfl, fun _ => key 4 (by decide), fun _ => key 3 (by decide)⟩
    · have hl : isLt (s0.2.1 214 a2.toInt.toNat).toInt = true := by
        rcases hr with hr | hr
        · exact hr.2
        · exact absurd hr.1 h0
      have hp : 2 * (W : Int) ≤ 78 + a2.toInt := by
        rcases hpot with h | ⟨-, h | h⟩
        · exact h
        · omega
        · rw [hl] at h
          cases h
      exact cut_43 hb e9' hsz h1 F7 ha1 hi h3 (by omega) (by rw [r7 220 (by decide)]; exact hW) C7 hK (by rw [sa_2, if_pos ⟨rfl, rfl⟩]) hp hl (fun x1 a2' s'' hlt hC' => ⟨hC', by show (4000 - a2'.toInt).toNat < (4000 - a2.toInt).toNat; omega⟩)
