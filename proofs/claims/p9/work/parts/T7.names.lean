/-! ===== which names are one, in both ===== -/
section TNM
variable {sg sg' : Nat → Int32} {n P : Nat} {B b : Int} {s0 z : zS} {s t : yS}
/-- a name's token: where it begins and ends, its word's number -/
theorem nm_tok (hX : TXT s0 P n z) (hA : Agr n (z.2 (P + 2)) sg') {Wl : List (Int64 × Int64)} (hR : RKp sg' B n n Wl t) {q : Nat} (hq : q ≤ ntk (z.2 (P + 2)) n) (hk : (z.2 (P + 4) q).toInt = 1) : q < ntk (z.2 (P + 2)) n ∧ ∃ j e k : Nat, zpl z P q = j ∧ zln z P q = e - j ∧ e ≤ n ∧ e - j ≤ 12 ∧ (∀ i, i < e - j → isLt (z.2 (P + 2) (j + i)).toInt = true ∨ isDg (z.2 (P + 2) (j + i)).toInt = true) ∧ (t.2.1 217 (B + (q : Int)).toNat).toInt = (k : Int) ∧ Wl[k]? = some (ecw (z.2 (P + 2)) j (e - j)) := by
  obtain ⟨-, x2, x3, x4, x5, x6, x7⟩ := hX
  have hq2 : q < ntk (z.2 (P + 2)) n := by
    rcases Nat.lt_or_ge q (ntk (z.2 (P + 2)) n) with h | h
    · exact h
    · exfalso
      rw [show q = ntk (z.2 (P + 2)) n by omega, x5] at hk
      omega
  refine ⟨hq2, ?_⟩
  obtain ⟨j, j1, j2, j3⟩ := ntk_sur n q hq2
  obtain ⟨e, y1, y2, y3, y4⟩ := x4 j j1 j2
  have hst : stt sg' j = true := by rw [ag_stt hA j1]; exact j2
  obtain ⟨e', w1, w2, w3⟩ := hR j j1 hst
  have ej : ntk sg' j = ntk (z.2 (P + 2)) j := ag_ntk hA j (by omega)
  rw [ej, j3] at w2 w3
  rw [j3] at y2 y3 y4
  have ee : e = e' := WEd_un y1 (ag_WEd hA w1)
  subst ee
  have hke := y1.1
  have hen := y1.2.1
  rw [hk] at y4
  unfold tkr at w3
  rw [hA j j1] at w3
  rcases y4 with ⟨hl, h⟩ | ⟨hl, h⟩
  · rcases h with ⟨-, hr⟩ | ⟨h12, -⟩
    · omega
    obtain ⟨h1, k, h2, h3⟩ := (w3.1 hl).1 h12
    have e1 : ecw sg' j (e - j) = ecw (z.2 (P + 2)) j (e - j) := ecw_cg (fun i hi => by rw [hA (j + i) (by omega)])
    rw [e1] at h3
    refine ⟨j, e, k, by unfold zpl; rw [y2]; rfl, by unfold zln; rw [y3]; omega, hen, h12, fun i hi => wd_ch hl y1 i (by omega), h2, h3⟩
  · exfalso
    rcases h with ⟨hs, hr⟩ | ⟨-, hr⟩
    · rw [← hr] at hs
      exact absurd hs (by decide)
    · omega
theorem WEQ_of (hX : TXT s0 P n z) (hC : CAq sg' B b n s t) (hB : 0 ≤ B) (hA : Agr n (z.2 (P + 2)) sg') : WEQ (KI (z.2 (P + 4))) (KI (z.2 (P + 10))) B (ntk (z.2 (P + 2)) n) t := by
  obtain ⟨⟨Wl, c1, c2, c3, c4⟩, -⟩ := hC
  intro i0 j0 h1 h2 h3 h4 hi hj
  obtain ⟨p, rfl⟩ : ∃ q : Nat, i0 = (q : Int) := ⟨i0.toNat, by omega⟩
  obtain ⟨q, rfl⟩ : ∃ q : Nat, j0 = (q : Int) := ⟨j0.toNat, by omega⟩
  rw [KI_n] at hi hj
  rw [KI_n, KI_n]
  obtain ⟨p1, j, e, k, a1, a2, a3, a4, a5, a6, a7⟩ := nm_tok hX hA c1 (show p ≤ _ by omega) hi
  obtain ⟨q1, j', e', k', b1, b2, b3, b4, b5, b6, b7⟩ := nm_tok hX hA c1 (show q ≤ _ by omega) hj
  obtain ⟨-, x2, x3, x4, x5, x6, x7⟩ := hX
  obtain ⟨u, u1, u2, u3, u4⟩ := x3.2.2.2.1 p (by omega) hi
  obtain ⟨v, v1, v2, v3, v4⟩ := x3.2.2.2.1 q (by omega) hj
  have eT : eqT z P p q ↔ ecw (z.2 (P + 2)) j (e - j) = ecw (z.2 (P + 2)) j' (e' - j') := by
    unfold eqT
    rw [a1, a2, b1, b2]
    refine ⟨fun h => ?_, fun h => ?_⟩
    · rw [← h.1]
      exact ecw_cg (fun i hi => by rw [h.2 i hi])
    · obtain ⟨f1, f2⟩ := ecw_inj a4 b4 a5 b5 h
      exact ⟨f1, fun i hi => Int32.toInt_inj.mp (f2 i hi)⟩
  rw [u2, v2, a6, b6]
  refine ⟨fun h => ?_, fun h => ?_⟩
  · have huv : u = v := by omega
    subst huv
    have := eT.mp (eqp_tr (eqp_sy u4) v4)
    rw [this] at a7
    have := nd_inj Wl k k' _ c3 a7 b7
    omega
  · have hk : k = k' := by omega
    subst hk
    have e1 : ecw (z.2 (P + 2)) j (e - j) = ecw (z.2 (P + 2)) j' (e' - j') := by
      rw [a7] at b7
      exact Option.some.inj b7
    have huv : eqT z P u v := eqp_tr u4 (eqp_tr (eT.mpr e1) (eqp_sy v4))
    rcases Nat.lt_trichotomy u v with w | w | w
    · exact absurd huv (x3.2.2.2.2 u v w (by omega) u3 v3)
    · omega
    · exact absurd (eqp_sy huv) (x3.2.2.2.2 v u w (by omega) v3 u3)
end TNM
