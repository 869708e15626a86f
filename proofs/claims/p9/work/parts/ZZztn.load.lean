/-! ===== the class: a program that is loaded ===== -/
/-- the program of the tokens K, L, W stands in P; gg: whether one is loaded, STEPS in all -/
def PLz (K L W ar : Int → Int) (n m : Int) (P : Nat) (gg : Int × Int) (s : zS) : Prop := PRm K L W ar (kdF K L (lsF K L)) n 0 m (tnF K (lsF K L)) (lsF K L) ∧ (PCk K L W ar (kdF K L (lsF K L)) (tnF K (lsF K L)) (lsF K L) (m + 1) ∧ PCc K L W ar (kdF K L (lsF K L)) (tnF K (lsF K L)) (lsF K L) (m + 1)) ∧ ∃ k0 k z : Int, PGz K L W ar (kdF K L (lsF K L)) (tnF K (lsF K L)) (lsF K L) n k0 (m + 1) P k z gg s ∧ 6 * z ≤ (s.1 (P + 34) 2).toInt
section ZTO
variable {K L W ar kd : Int → Int} {TN Ls : List Int} {n m k0 mB k z : Int} {P : Nat} {s s' : zS} {gg g2 : Int × Int} {V : List (Nat × Nat)}
/-- behind program, where it answers 0 -/
theorem LD_pl (hP : P = 3 ∨ P = 39) (h : LDq K L W ar n P s) : ∃ m, m = (p_al K L 4000 0 0 (0, 0)).2 ∧ ffs (eFs K L W ar (kdF K L (lsF K L)) (tnF K (lsF K L)) (lsF K L) (m + 1)) = 0 ∧ PLz K L W ar n m P (1, (s.1 0 12).toInt) (ldS s) := by
  obtain ⟨Ls, m, k0, ⟨rfl, hm⟩, h1, ⟨h2, k, z, hsz, h3, h4, h5, h6⟩, h7, h8⟩ := h
  have hs2 : 6 * z ≤ ((ldS s).1 (P + 34) 2).toInt := by
    have F0 : ∀ c q, (ldS s).1 c q = if c = 197 ∧ q = 9 then 0 else if c = 197 ∧ q = 8 then 0 else if c = 105 ∧ q = 13 then 5 else if c = 105 ∧ q = 11 then 0 else if c = 105 ∧ q = 10 then 0 else if c = 0 ∧ q = 11 then 1 else s.1 c q := fun c q => rfl
    rw [F0, if_neg (fun z => absurd z.2 (by decide)), if_neg (fun z => absurd z.2 (by decide)), if_neg (fun z => absurd z.2 (by decide)), if_neg (fun z => absurd z.2 (by decide)), if_neg (fun z => absurd z.2 (by decide)), if_neg (fun z => absurd z.2 (by decide))]
    exact hsz
  refine ⟨m, hm, h7, h1, ⟨PC_of h1 h7 h8, PCc_of h1 h7 h8⟩, k0, k, z, ?_, hs2⟩
  have G : PGz K L W ar (kdF K L (lsF K L)) (tnF K (lsF K L)) (lsF K L) n k0 (m + 1) P k z ((s.1 0 11).toInt, (s.1 0 12).toInt) s := ⟨h2, h3, h4, h5, h6, rfl, rfl⟩
  have F : ∀ c q, (ldS s).1 c q = if c = 197 ∧ q = 9 then 0 else if c = 197 ∧ q = 8 then 0 else if c = 105 ∧ q = 13 then 5 else if c = 105 ∧ q = 11 then 0 else if c = 105 ∧ q = 10 then 0 else if c = 0 ∧ q = 11 then 1 else s.1 c q := fun c q => rfl
  refine PGz_v (s := s) (s' := ldS s) hP rfl (fun c q h0 hc => ?_) ⟨?_, ?_⟩ G
  · rw [F, if_neg (by omega), if_neg (by omega), if_neg (by omega), if_neg (by omega), if_neg (by omega), if_neg (fun z => h0 z.1)]
  · rw [F, if_neg (by decide), if_neg (by decide), if_neg (by decide), if_neg (by decide), if_neg (by decide), if_pos ⟨rfl, rfl⟩]
    show (1 : Int32).toInt = 1
    decide
  · rw [F, if_neg (by decide), if_neg (by decide), if_neg (by decide), if_neg (by decide), if_neg (by decide), if_neg (by decide)]
/-- it stays where its tables and the kept words do -/
theorem PGz_f (hP : P = 3 ∨ P = 39) (hV : FVq V P s s') (h99 : ¬ (P, 99) ∈ V) (hw : ∀ j : Nat, ((j : Int) < 18 ∨ (18738 ≤ (j : Int) ∧ (j : Int) < (s.1 P 10).toInt)) → s'.2 (P + 18) j = s.2 (P + 18) j) (ht : ∀ j : Nat, (j : Int) < (s.1 P 10).toInt - 18738 → s'.2 (P + 20) j = s.2 (P + 20) j) (hk : s'.1 P 10 = s.1 P 10) (h3 : (s'.1 0 11).toInt = g2.1 ∧ (s'.1 0 12).toInt = g2.2) (g : PGz K L W ar kd TN Ls n k0 mB P k z gg s) : PGz K L W ar kd TN Ls n k0 mB P k z g2 s' := by
  obtain ⟨hv1, hv2⟩ := hV.1 h99
  obtain ⟨g1, gb, g3, g4, g5, -⟩ := g
  have kk : (s.1 P 10).toInt = k := g5.2.1
  rw [kk] at hw ht
  have hr : ∀ r : Nat, 0 < r → r < 36 → ¬ r = 18 → ¬ r = 20 → s'.2 (P + r) = s.2 (P + r) ∧ s'.1 (P + r) 2 = s.1 (P + r) 2 := fun r r0 r1 r2 r3 => hv1 (P + r) (by
    unfold pTb
    rw [show Nat.blt P (P + r) = true from Nat.ble_eq_true_of_le (by omega), show Nat.ble (P + r) (P + 35) = true from Nat.ble_eq_true_of_le (by omega)]
    have e1 : Nat.beq (P + r) (P + 18) = false := by
      cases q : Nat.beq (P + r) (P + 18) with
      | false => rfl
      | true => exact absurd (Nat.eq_of_beq_eq_true q) (by omega)
    have e2 : Nat.beq (P + r) (P + 20) = false := by
      cases q : Nat.beq (P + r) (P + 20) with
      | false => rfl
      | true => exact absurd (Nat.eq_of_beq_eq_true q) (by omega)
    rw [e1, e2]
    rfl)
  have hly : ∀ {pc : Int} {C : List Ins}, LYz P k z s pc C → LYz P k z s' pc C := fun g => LYz_k (fun j q1 q2 => hw j (Or.inr ⟨q1, q2⟩)) (Int.le_refl _) (fun j _ => by rw [(hr 34 (by decide) (by decide) (by decide) (by decide)).1]) (Int.le_refl _) g
  refine ⟨CSz_g hP (fun r h => (hr r (by omega) (by omega) (by omega) (by omega)).1) (fun j _ => by rw [(hr 26 (by decide) (by decide) (by decide) (by decide)).1]) (fun j hj => hw j (by omega)) (fun j hj => ht j (by omega)) (fun b hb => ?_) g1, gb, fun g p hg => ?_, ?_, ⟨?_, ?_, C0z_m (fun C g => hly g) g5.2.2⟩, h3⟩
  · rcases hb with rfl | rfl | rfl
    · exact (hr 24 (by decide) (by decide) (by decide) (by decide)).2
    · exact (hr 26 (by decide) (by decide) (by decide) (by decide)).2
    · exact (hr 32 (by decide) (by decide) (by decide) (by decide)).2
  · have e : fnc s' P (g : Int) 8 = fnc s P (g : Int) 8 := by
      unfold fnc
      rw [(hr 26 (by decide) (by decide) (by decide) (by decide)).1]
    rw [e]
    exact hly (g3 g p hg)
  · rw [hv2 12 (by decide)]
    exact hly g4
  · rw [hv2 13 (by decide)]
    exact kpz_k (fun j q1 q2 => hw j (Or.inr ⟨q1, q2⟩)) (Int.le_refl _) g5.1
  · rw [hk]
    exact kk
theorem PL_sz (hP : P = 3 ∨ P = 39) (hV : FVq V P s s') (h99 : ¬ (P, 99) ∈ V) : s'.1 (P + 34) 2 = s.1 (P + 34) 2 := by
  refine ((hV.1 h99).1 (P + 34) ?_).2
  rcases hP with rfl | rfl <;> decide
/-- it stays where nothing of it is written -/
theorem PL_n (hP : P = 3 ∨ P = 39) (hV : FVq V P s s') (h99 : ¬ (P, 99) ∈ V) (h98 : ¬ (P, 98) ∈ V) (h3 : (s'.1 0 11).toInt = g2.1 ∧ (s'.1 0 12).toInt = g2.2) (g : PLz K L W ar n m P gg s) : PLz K L W ar n m P g2 s' := by
  obtain ⟨q1, q2, k0, k, z, q3, q4⟩ := g
  obtain ⟨w1, w2, -⟩ := hV.2 h99 h98
  have b18 : pWd P (P + 18) = true := by
    unfold pWd
    rw [Nat.beq_refl]
    rfl
  have b20 : pWd P (P + 20) = true := by
    unfold pWd
    rw [Nat.beq_refl (P + 20)]
    exact Bool.or_true _
  exact ⟨q1, q2, k0, k, z, PGz_f hP hV h99 (fun j _ => by rw [w1 _ b18]) (fun j _ => by rw [w1 _ b20]) w2 h3 q3, by rw [PL_sz hP hV h99]; exact q4⟩
/-- it stays over implementing, isMade -/
theorem PL_a (hP : P = 3 ∨ P = 39) (hV : FVq V P s s') (h99 : ¬ (P, 99) ∈ V) (hR : RDw P s s') (hk : s'.1 P 10 = s.1 P 10) (g : PLz K L W ar n m P gg s) : PLz K L W ar n m P gg s' := by
  obtain ⟨q1, q2, k0, k, z, q3, q4⟩ := g
  obtain ⟨-, -, -, -, -, c1, c2⟩ := id q3
  exact ⟨q1, q2, k0, k, z, PGz_f hP hV h99 (fun j hj => hR.1 j (by omega)) (fun j hj => hR.2.1 j hj) hk ⟨by rw [hR.2.2.1]; exact c1, by rw [hR.2.2.2.1]; exact c2⟩ q3, by rw [PL_sz hP hV h99]; exact q4⟩
end ZTO
