/-! ===== the class: lookAtAll ===== -/
/-- the faults of all declarations, one by one -/
def dLs (K L W ar : Int → Int) (mv : List Int → List Int → List Int → Int) (TN Ls : List Int) : List (List Int) := (List.range Ls.length).map (fun i => dcL K L W ar mv TN Ls i (Ls.getD i 0))
section Z7C
variable {K L W ar kd : Int → Int} {n lo hi m k0 T : Int} {TN Ls : List Int} {i j P : Nat} {t q : Int} {s u w : zS} {x : Int × Int × Int × Int} {mv : List Int → List Int → List Int → Int}
theorem dLs_at (h1 : Ls[i]? = some t) : (dLs K L W ar mv TN Ls)[i]? = some (dcL K L W ar mv TN Ls i t) := by
  have hi := (List.getElem?_eq_some_iff.mp h1).1
  unfold dLs
  rw [List.getElem?_map, List.getElem?_range hi]
  show some (dcL K L W ar mv TN Ls i (Ls.getD i 0)) = _
  rw [List.getD_eq_getElem?_getD, h1]
  rfl
theorem dLs_len : (dLs K L W ar mv TN Ls).length = Ls.length := by
  unfold dLs
  rw [List.length_map, List.length_range]
theorem CSz_rf (hP : P = 3 ∨ P = 39) (hT : 18 ≤ T) (h : RFz P T u w) (hf : ∀ b : Nat, w.1 b 2 = u.1 b 2) (C : CSz K L W ar kd TN Ls n k0 P u) : CSz K L W ar kd TN Ls n k0 P w := by
  have r : ∀ r : Nat, ¬ r = 18 → r < 36 → w.2 (P + r) = u.2 (P + r) := fun r h1 h2 => h.1 _ (by omega) (by omega) (by omega) (by omega)
  obtain ⟨⟨⟨d1, d2, d3, d4⟩, d5, d6, d7⟩, c2, c3, c4, ⟨c5, c5'⟩, c6, c7, c8⟩ := C
  have et : ∀ i c, tyc w P i c = tyc u P i c := fun i c => by
    unfold tyc
    rw [r 24 (by decide) (by decide)]
  have eg : ∀ i c, sgc w P i c = sgc u P i c := fun i c => by
    unfold sgc
    rw [r 28 (by decide) (by decide)]
  have ef : ∀ i c, fnc w P i c = fnc u P i c := fun i c => by
    unfold fnc
    rw [r 26 (by decide) (by decide)]
  have es : ∀ i c, slc w P i c = slc u P i c := fun i c => by
    unfold slc
    rw [r 30 (by decide) (by decide)]
  have ed : ∀ i c, dcl w P i c = dcl u P i c := fun i c => by
    unfold dcl
    rw [r 32 (by decide) (by decide)]
  have ez : ∀ b, zsz w b = zsz u b := fun b => by
    unfold zsz
    rw [hf]
  refine ⟨⟨⟨by rw [r 4 (by decide) (by decide)]; exact d1, by rw [r 6 (by decide) (by decide)]; exact d2, by rw [r 10 (by decide) (by decide)]; exact d3, by rw [r 22 (by decide) (by decide)]; exact d4⟩, ?_, ?_, KDz_r (r 24 (by decide) (by decide)) d7⟩, fun i hi => ?_, FNi_r (r 24 (by decide) (by decide)) (r 26 (by decide) (by decide)) c3, fun i q hq => ?_, ⟨fun i q v hi h1 h2 => ?_, c5'⟩, fun i t h1 => ⟨⟨fun h6 => ?_, fun h6 => ?_⟩, fun j q h2 => ?_⟩, by rw [ez, ez, ez]; exact c7, c8⟩
  · unfold SMz okT eqT zpl zln at *
    rw [r 2 (by decide) (by decide), r 6 (by decide) (by decide), r 8 (by decide) (by decide)]
    exact d5
  · unfold TNz at d6 ⊢
    rw [ez]
    refine ⟨d6.1, d6.2.1, fun i v hv => ?_⟩
    rw [et]
    exact d6.2.2 i v hv
  · rw [← c2 i hi, KI_n, KI_n, h.2 i (Or.inl (by omega))]
  · rw [es, es, es, es]
    exact c4 i q hq
  · rw [es]
    obtain ⟨w1, w2⟩ := c5 i q v hi h1 h2
    refine ⟨w1, fun h0 => ?_⟩
    obtain ⟨v1, v2, v3, v4⟩ := w2 h0
    refine ⟨v1, v2, RFz_wd h (by omega) (Or.inr v1) v3, fun k a ha => ?_⟩
    rw [r 20 (by decide) (by decide)]
    exact v4 k a ha
  · rw [ed, ed, ed, ef, ef, ef, ef, ef, ef, ef]
    exact (c6 i t h1).1.1 h6
  · rw [ed, ed, ed, et, et, et, et]
    exact (c6 i t h1).1.2 h6
  · obtain ⟨j0, g1, g2⟩ := (c6 i t h1).2 j q h2
    refine ⟨j0, ?_, g2⟩
    rw [eg, eg, eg, eg, eg]
    exact g1
/-- PARAMS have their BOUNDS -/
theorem cz_sp (h : PRm K L W ar kd n lo hi TN Ls) (C : CSz K L W ar kd TN Ls n k0 P u) {c sg nY : Int} {A : List Int} (h4 : (u.1 75 4).toInt = c) (h6 : (u.1 75 6).toInt = sg) (hA : cdW (ar c) nY A) (hc : (∃ a ∈ A, 24 ≤ a ∧ a < 30) → 0 ≤ c ∧ c < (kTy K Ls : Int)) (hY : nY ≤ 0 ∨ ∃ g : Nat, g < kHd K L Ls ∧ sg = (g : Int) ∧ nY = ((hdd K L W ar TN Ls g).1 : Int)) : SPz ar P u (bnD (Bfd K L W ar TN Ls) (hdd K L W ar TN Ls) c sg) A := by
  intro ca hca h24
  have hcd := hA ca hca
  have hlen := C.2.2.2.2.2.2.2
  have hnT := PR_nT h
  rw [h4, h6]
  have fin : ∀ {b : Int} {X : List (List Int)} {k : Nat}, SSz ar P u b X → k < X.length → ∃ (co : Int) (O' : List Int), X.getD k [] = co :: O' ∧ (0 ≤ co ∧ co ≤ 100) ∧ (18738 ≤ slc u P (b + (k : Int)) 3 ∧ slc u P (b + (k : Int)) 3 ≤ 82938) ∧ WDz P u (slc u P (b + (k : Int)) 3) (co :: O') ∧ isR ar 1 (co :: O') ∧ (co :: O').length ≤ 60 := fun {b X k} hs hk => by
    have hv := List.getElem?_eq_getElem hk
    obtain ⟨g1, g2, g3, g4, g5⟩ := hs k _ hv
    have e1 : X.getD k [] = X[k] := by
      rw [List.getD_eq_getElem?_getD, hv]
      rfl
    cases hX : X[k] with
    | nil => exact absurd hX (isR_ne g3)
    | cons co O' =>
      rw [hX] at g2 g3 g4 g5
      have := g5 co List.mem_cons_self
      exact ⟨co, O', by rw [e1, hX], by omega, g1, g2, g3, g4⟩
  by_cases h30 : ca < 30
  · have hc' := hc ⟨ca, hca, h24, h30⟩
    have hlt := hcd.2.2.1 h24 h30
    obtain ⟨b1, b2, b3⟩ := cz_bf (A := [c]) h C (fun v hv _ => by rw [List.mem_singleton.mp hv, hnT]; exact hc'.2) c (List.mem_singleton.mpr rfl) hc'.1 (by omega)
    have h24' := h.2.2.1.1
    obtain ⟨co, O', f1, f2, f3, f4, f5, f6⟩ := fin (k := (ca - 24).toNat) b2 (by omega)
    rw [show tyc u P c 2 + (((ca - 24).toNat : Nat) : Int) = tyc u P c 2 + (ca - 24) by omega] at f3 f4
    refine ⟨fun _ => ⟨⟨hc'.1, by omega⟩, b1⟩, fun z => by omega, co, O', slc u P (tyc u P c 2 + (ca - 24)) 3, ?_, f2, by rw [if_pos h30], f3.1, f3.2, f4, f5, f6⟩
    unfold bnD
    rw [if_pos h30]
    exact f1
  · have hlt := hcd.2.2.2 (by omega)
    rcases hY with z | ⟨g, g1, g2, g3⟩
    · omega
    · obtain ⟨⟨p1, p2, p3⟩, -, p4, p5⟩ := cz_hd h C g g1
      rw [← g2] at p1 p2 p3 p5
      obtain ⟨co, O', f1, f2, f3, f4, f5, f6⟩ := fin (k := (ca - 30).toNat) p5 (by omega)
      rw [show sgc u P sg 2 + (((ca - 30).toNat : Nat) : Int) = sgc u P sg 2 + (ca - 30) by omega] at f3 f4
      refine ⟨fun z => absurd z h30, fun _ => ⟨by omega, p3⟩, co, O', slc u P (sgc u P sg 2 + (ca - 30)) 3, ?_, f2, by rw [if_neg h30], f3.1, f3.2, f4, f5, f6⟩
      unfold bnD
      rw [if_neg h30, if_neg (by omega), g2, Int.toNat_natCast]
      exact f1
end Z7C
