/-! ===== cutAll, whole ===== -/
section TCA
variable {d : Nat} {s s' t : yS} {b B : Int} {sg : Nat → Int32} {n k e j l : Nat} {Wl Wl' : List (Int64 × Int64)}
/-- what cutAll leaves -/
def CAq (sg : Nat → Int32) (B b : Int) (n : Nat) (s s' : yS) : Prop := (∃ Wl : List (Int64 × Int64), RKp sg B n n Wl s' ∧ WTb b Wl s' ∧ Wl.Nodup ∧ Pre (kst 39).2 Wl) ∧ (s'.2.1 215 (B + (ntk sg n : Int)).toNat).toInt = 0 ∧ (s'.2.1 216 (B + (ntk sg n : Int)).toNat).toInt = (n : Int) ∧ (s'.1 7).toInt = B ∧ (s'.1 8).toInt = 0 ∧ (s'.1 2).toInt = 0 ∧ CTf B b s s'
set_option maxHeartbeats 4000000 in
theorem x_162 (hsg : s.2.1 214 = sg) (h9 : (s.1 9).toInt = b) (hb : 0 ≤ b) (hB : B = 4002 * b) (hn2 : (s.1 2).toInt = (n : Int)) (hn : n ≤ 4000) (hW : WTb b (kst 39).2 s) : Par d 162 [.ref 213] s (fun v s' => v = none ∧ CAq sg B b n s s') := by
  have hB0 : 0 ≤ B := by omega
  cases d with
  | zero => exact Par_0
  | succ d =>
    refine pb_162 ?_
    unfold ub_162_0
    intro s1 hs1 s2 hs2
    have f2 : ∀ q, ¬ q = 2 → ¬ q = 3 → s2.1 q = s.1 q := fun q h1 h2 => by rw [hs2, sfr_1, if_neg h1, hs1, sfr_1, if_neg h2]
    have r2 : s2.2 = s.2 := by rw [hs2, sfr_2, hs1, sfr_2]
    have e23 : s2.1 3 = s.1 2 := by rw [hs2, sfr_1, if_neg (by decide), hs1, sfr_1, if_pos rfl]
    have e22 : (s2.1 2).toInt = 0 := by rw [hs2, sfr_1, if_pos rfl]; rfl
    rw [f2 9 (by decide) (by decide), h9]
    intro _ x3 hx3
    have nd39 : (kst 39).2.Nodup := by decide +kernel
    refine ⟨fun a1 a2 t => CLp sg B b n s a1 a2 t, ⟨0, (kst 39).2, by decide, Nat.zero_le _, Or.inr rfl, by rw [hx3]; show 4002 * b = B + ((0 : Nat) : Int); omega, fun j hj => by omega, ⟨by rw [r2]; exact hW.1, by rw [r2]; exact hW.2⟩, nd39, fun _ _ h => h, ⟨fun q h1 h2 _ _ => f2 q h1 h2, fun p i _ _ => by rw [r2]⟩, e23, e22⟩, ?_⟩
    rintro a1 a2 t ⟨k, Wl, g1, g2, g3, g4, g5, g6, g7, g8, g9, g10, g11⟩
    have s214 : t.2.1 214 = sg := by
      rw [← hsg]
      exact funext fun i => g9.2 214 i (by omega) (by omega)
    have h3' : (t.1 3).toInt = (n : Int) := by rw [g10]; exact hn2
    have h9t : (t.1 9).toInt = b := by rw [g9.1 9 (by decide) (by decide) (by decide) (by decide)]; exact h9
    unfold ub_162_14
    rw [h3']
    refine ⟨fun w => ?_, fun w hw4 => ?_⟩
    · -- the end
      have ek : k = n := by omega
      subst ek
      intro _ s4 hs4 _ s5 hs5 _ s6 hs6
      have e4 : s4.1 = t.1 := by rw [hs4]; rfl
      have e5 : s5.1 = t.1 := by rw [hs5, ← e4]; rfl
      have e6 : s6.1 = t.1 := by rw [hs6, ← e5]; rfl
      rw [e6, h9t]
      intro _ x7 hx7 s8 hs8 s10 hs10
      have r10 : ∀ q i, s10.2.1 q i = if q = 217 ∧ i = a1.toInt.toNat then -1 else if q = 216 ∧ i = a1.toInt.toNat then t.1 3 else if q = 215 ∧ i = a1.toInt.toNat then 0 else t.2.1 q i := fun q i => by rw [hs10, sfr_2, hs8, sfr_2, hs6, sa_21, hs5, sa_21, e4, hs4, sa_21]
      have l10 : s10.2.2 = t.2.2 := by
        rw [hs10, hs8, hs6, hs5, hs4]
        rfl
      have e10 : ∀ q, ¬ q = 7 → ¬ q = 8 → s10.1 q = t.1 q := fun q h1 h2 => by rw [hs10, sfr_1, if_neg h2, hs8, sfr_1, if_neg h1, e6]
      have ed : a1.toInt.toNat = (B + (ntk sg k : Int)).toNat := by rw [g4]
      refine ⟨rfl, ⟨Wl, fun j hj hst => ?_, ⟨?_, ?_⟩, g7, g8⟩, ?_, ?_, ?_, ?_, ?_, ⟨fun q h1 h2 h3 h4 => by rw [e10 q h3 h4]; exact g9.1 q h1 h2 h3 h4, fun p i h1 h2 => ?_⟩⟩
      · obtain ⟨e', c1, c2, c3⟩ := g5 j hj hst
        have hl := ntk_lt (sg := sg) hj hst
        have same : ∀ p : Nat, s10.2.1 p (B + (ntk sg j : Int)).toNat = t.2.1 p (B + (ntk sg j : Int)).toNat := fun p => by rw [r10, if_neg (by omega), if_neg (by omega), if_neg (by omega)]
        rw [same, same, same]
        exact ⟨e', c1, c2, c3⟩
      · rw [r10, if_neg (by omega), if_neg (by omega), if_neg (by omega)]
        exact g6.1
      · rw [l10]
        exact g6.2
      · rw [← ed, r10, if_neg (by omega), if_neg (by omega), if_pos ⟨rfl, rfl⟩]
        rfl
      · rw [← ed, r10, if_neg (by omega), if_pos ⟨rfl, rfl⟩]
        exact h3'
      · rw [hs10, sfr_1, if_neg (by decide), hs8, sfr_1, if_pos rfl, hx7, hB]
      · rw [hs10, sfr_1, if_pos rfl]
        rfl
      · rw [e10 2 (by decide) (by decide)]
        exact g11
      · rw [r10, if_neg (by omega), if_neg (by omega), if_neg (by omega)]
        exact g9.2 p i h1 h2
    · have hkn : k < n := by omega
      have hiw : iwd sg k = false := by
        rcases g3 with h | h
        · omega
        · exact h
      have ec : t.2.1 214 a2.toInt.toNat = sg k := by rw [s214, show a2.toInt.toNat = k by omega]
      rw [ec]
      have skip : blk (sg k).toInt = true → ub_162_29 (Par d) (fun a1 a2 t => CLp sg B b n s a1 a2 t) a1 a2 (sg k) t (fun v s' => v = none ∧ CAq sg B b n s s') := fun hbk => by
        have hst : stt sg k = false := by
          unfold stt
          rw [hbk]
          rfl
        unfold ub_162_29
        intro _ x1 hx1
        refine ⟨k + 1, Wl, by omega, by omega, Or.inr (iwd_no hiw (isLt_b hbk).1), by rw [ntk_no hst]; exact g4, RKp_skip g5 hst, g6, g7, g8, g9, g10, g11⟩
      refine ⟨fun hc => skip (by unfold blk; rw [hc]; decide), fun hc => ⟨fun hc2 => ?_, fun hc2 => skip (by unfold blk; rw [hc2]; decide)⟩⟩
      have hbk : blk (sg k).toInt = false := by
        unfold blk
        rw [decide_eq_false hc, decide_eq_false hc2]
        rfl
      have hst : stt sg k = true := by
        unfold stt
        rw [hbk, hiw]
        rfl
      intro _ s7 hs7
      have e7 : s7.1 = t.1 := by rw [hs7]; rfl
      have r7 : ∀ q i, s7.2.1 q i = if q = 216 ∧ i = a1.toInt.toNat then a2 else t.2.1 q i := fun q i => by rw [hs7, sa_21]
      have l7 : s7.2.2 = t.2.2 := by rw [hs7]; rfl
      have R7 : RKp sg B n k Wl s7 := fun j hj hst' => by
        obtain ⟨e', c1, c2, c3⟩ := g5 j hj hst'
        have hl := ntk_lt (sg := sg) hj hst'
        have same : ∀ p : Nat, s7.2.1 p (B + (ntk sg j : Int)).toNat = t.2.1 p (B + (ntk sg j : Int)).toNat := fun p => by rw [r7, if_neg (by omega)]
        rw [same, same, same]
        exact ⟨e', c1, c2, c3⟩
      have W7 : WTb b Wl s7 := ⟨by rw [r7, if_neg (by omega)]; exact g6.1, by rw [l7]; exact g6.2⟩
      have C7 : CTf B b s s7 := ⟨fun q h1 h2 h3 h4 => by rw [e7]; exact g9.1 q h1 h2 h3 h4, fun p i h1 h2 => by rw [r7, if_neg (by omega)]; exact g9.2 p i h1 h2⟩
      refine Par.imp x_156 ?_
      rintro v9 s8 ⟨rfl, x10, rfl, hr⟩
      refine ⟨x10, rfl, fun w10 => ?_, fun w10 => ?_⟩
      · rcases hr with ⟨z1, -⟩ | ⟨-, z1⟩
        · omega
        have hWE : WEd sg n k (k + 1) := ⟨by omega, by omega, fun j j1 j2 => by omega, Or.inr (iwd_no hiw z1)⟩
        have wr : ∀ tv : Int32, (tv.toInt = 3 ∧ sgB (sg k).toInt = true) ∨ (tv.toInt = 4 ∧ sgB (sg k).toInt = false) → ub_162_144 (Par d) (fun a1 a2 t => CLp sg B b n s a1 a2 t) a1 a2 (sg k) a2 a1 tv s8 (fun v s' => v = none ∧ CAq sg B b n s s') := by
          intro tv htv
          unfold ub_162_144
          intro _ s1' hs1' _ s2' hs2' _ x3' hx3'
          have r2' : ∀ q i, s2'.2.1 q i = if q = 217 ∧ i = a1.toInt.toNat then sg k else if q = 215 ∧ i = a1.toInt.toNat then tv else s8.2.1 q i := fun q i => by rw [hs2', sa_21, hs1', sa_21]
          have e2' : s2'.1 = s8.1 := by rw [hs2', hs1']; rfl
          have l2' : s2'.2.2 = s8.2.2 := by rw [hs2', hs1']; rfl
          have ed : a1.toInt.toNat = (B + (ntk sg k : Int)).toNat := by rw [g4]
          unfold ub_162_151
          intro _ x4 hx4
          have hntk : ntk sg (k + 1) = ntk sg k + 1 := by
            show ntk sg k + (if stt sg k = true then 1 else 0) = _
            rw [if_pos hst]
          refine ⟨k + 1, Wl, by omega, by omega, Or.inr (iwd_no hiw z1), by rw [hx4, hntk]; omega, RKp_ext hB0 R7 (fun _ _ h => h) hst hWE (fun p i _ hi => by rw [r2', if_neg (by omega), if_neg (by omega)]) ?_ ?_, ⟨?_, ?_⟩, g7, g8, ⟨fun q h1 h2 h3 h4 => by rw [e2']; exact C7.1 q h1 h2 h3 h4, fun p i h1 h2 => by rw [r2', if_neg (by omega), if_neg (by omega)]; exact C7.2 p i h1 h2⟩, by rw [e2', e7]; exact g10, by rw [e2', e7]; exact g11⟩
          · rw [← ed, r2', if_neg (by omega), if_neg (by omega), r7, if_pos ⟨rfl, rfl⟩]
            exact g1
          · rw [← ed, r2', if_neg (by omega), if_pos ⟨rfl, rfl⟩, r2', if_pos ⟨rfl, rfl⟩]
            refine ⟨fun hl => (by rw [z1] at hl; cases hl), fun _ => ⟨fun hs => ?_, fun hs => ?_⟩⟩
            · rcases htv with ⟨ht, -⟩ | ⟨-, h⟩
              · exact ⟨ht, rfl⟩
              · rw [hs] at h
                cases h
            · rcases htv with ⟨-, h⟩ | ⟨ht, -⟩
              · rw [hs] at h
                cases h
              · exact ht
          · rw [r2', if_neg (by omega), if_neg (by omega)]
            exact W7.1
          · rw [l2']
            exact W7.2
        refine Par.imp x_159 ?_
        rintro v12 s11 ⟨rfl, x13, rfl, hr⟩
        refine ⟨x13, rfl, fun w13 => ?_, fun w13 => ?_⟩
        · rcases hr with ⟨z2, -⟩ | ⟨-, z2⟩
          · omega
          exact wr 4 (Or.inr ⟨by decide, z2⟩)
        · rcases hr with ⟨-, z2⟩ | ⟨z2, -⟩
          · exact wr 3 (Or.inl ⟨by decide, z2⟩)
          · omega
      · rcases hr with ⟨-, z1⟩ | ⟨z1, -⟩
        · exact x_162w hsg h9 hb hB0 hn2 hn g1 hkn hst z1 g4 R7 W7 g7 g8 C7 (by rw [e7]; exact g10) (by rw [e7]; exact g11) (by rw [r7, if_pos ⟨rfl, rfl⟩])
        · omega
end TCA
