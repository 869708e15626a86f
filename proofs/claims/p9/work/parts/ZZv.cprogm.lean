/-! ===== the class: program ===== -/
/-- what is left where program answers 0: tables, code, no fault in E -/
def LDq (K L W ar : Int → Int) (n : Int) (P : Nat) (s : zS) : Prop := ∃ (Ls : List Int) (m k0 : Int), (Ls = l_al K L 4000 0 0 (0, 0) ∧ m = (p_al K L 4000 0 0 (0, 0)).2) ∧ PRm K L W ar (kdF K L Ls) n 0 m (tnF K Ls) Ls ∧ CAz K L W ar (kdF K L Ls) (tnF K Ls) Ls n k0 (m + 1) P s ∧ ffs (eFs K L W ar (kdF K L Ls) (tnF K Ls) Ls (m + 1)) = 0 ∧ (p_e K L 10 false (0, m + 1)).1 = 0
section ZZV
variable {P N : Nat} {s : zS}
set_option maxHeartbeats 8000000 in
theorem zs_140x {Q : zS → Prop} (hP : P = 3 ∨ P = 39) (hn : (s.1 1 2).toInt = (N : Int)) (hn4 : N ≤ 4000) (hS : SGz P s) (hQ : ∀ (s8 z : zS) (ar : Int → Int), TXT s P N z → GDk (KI (z.2 (P + 4))) (KI (z.2 (P + 6))) ar (ntk (z.2 (P + 2)) N) → (s8.1 P 14).toInt = pgF (KI (z.2 (P + 4))) (KI (z.2 (P + 6))) (KI (z.2 (P + 10))) ar → ((s8.1 P 14).toInt = 0 → LDq (KI (z.2 (P + 4))) (KI (z.2 (P + 6))) (KI (z.2 (P + 10))) ar (ntk (z.2 (P + 2)) N) P s8) → Q s8) : v_140x 0 P s Q := by
  unfold v_140x
  refine Zt.imp (Zt.mo (d := 14) (by omega) (zs_37 (d := 0) hP hn hn4)) ?_
  rintro v1 s1 ⟨rfl, t1, t2, t3, t4, t5, t34⟩
  refine ⟨rfl, by omega, ?_⟩
  refine Zu.imp (Zu.mo (d := 18) (by omega) (zs_81 (d := 0) hP)) ?_
  rintro v2 s2 ⟨rfl, a1, a2, a3⟩
  refine ⟨rfl, ?_⟩
  have a1 : s2.2 = s1.2 := a1
  have f2 : ∀ b q, ¬ (b = 75 ∧ (q = 3 ∨ q = 4 ∨ q = 5 ∨ q = 6)) → ¬ (b = 1 ∧ q = 2) → s2.1 b q = s1.1 b q := fun b q h1 h2 => by rw [a3 b q h1, zf_1, if_neg h2]
  have hX := TXp_of t1 hn4
  have hM := SMz_of t1
  obtain ⟨n, hnn⟩ : ∃ n : Int, n = (ntk (s1.2 (P + 2)) N : Int) := ⟨_, rfl⟩
  obtain ⟨K, hK⟩ : ∃ K, K = KI (s1.2 (P + 4)) := ⟨_, rfl⟩
  obtain ⟨L, hL⟩ : ∃ L, L = KI (s1.2 (P + 6)) := ⟨_, rfl⟩
  obtain ⟨W, hW⟩ : ∃ W, W = KI (s1.2 (P + 10)) := ⟨_, rfl⟩
  have hQ' : ∀ (s8 : zS) (ar : Int → Int), GDk K L ar n → (s8.1 P 14).toInt = pgF K L W ar → ((s8.1 P 14).toInt = 0 → LDq K L W ar n P s8) → Q s8 := fun s8 ar g e l => hQ s8 s1 ar t1 (by rw [← hK, ← hL, ← hnn]; exact g) (by rw [← hK, ← hL, ← hW]; exact e) (by rw [← hK, ← hL, ← hW, ← hnn]; exact l)
  rw [← hK, ← hL, ← hnn] at hX
  rw [← hK, ← hW, ← hnn] at hM
  have z5 : (s2.1 P 14).toInt = 0 := by
    rw [f2 P 14 (by omega) (by omega)]
    exact t5
  refine Zu.imp (Zu.mo (d := 61) (by omega) (zu_ar hP (zs_61 hP hX (by rw [a1]; exact hK.symm) (by rw [a1]; exact hL.symm) (fun r hr => by
    have := rw_b r hr
    have q := t3 r hr
    unfold zsz at q ⊢
    rw [f2 (P + r) 2 (by omega) (by omega)]
    exact q)))) ?_
  rintro v3 s3 ⟨⟨rfl, c1, c2, c3⟩, har⟩
  rw [z5] at c1 c3
  refine ⟨rfl, ?_⟩
  by_cases hf : (p_pg K L (0, 0)).1 = 0
  rotate_left
  · have h3 : ¬ (s3.1 P 14).toInt = 0 := by rw [c1]; exact hf
    refine Zu.imp (Zu.mo (d := 9) (by omega) (zs_122x (d := 0) hP h3)) ?_
    rintro v4 s4 ⟨rfl, e4⟩
    rw [e4]
    refine ⟨rfl, Zu.imp (Zu.mo (d := 9) (by omega) (zs_128x (d := 0) hP h3)) ?_⟩
    rintro v5 s5 ⟨rfl, e5⟩
    rw [e5]
    refine ⟨rfl, Zu.imp (Zu.mo (d := 9) (by omega) (zs_134x (d := 0) hP h3)) ?_⟩
    rintro v6 s6 ⟨rfl, e6⟩
    rw [e6]
    refine ⟨rfl, Zu.imp (Zu.mo (d := 9) (by omega) (zs_136x (d := 0) hP h3)) ?_⟩
    rintro v7 s7 ⟨rfl, e7⟩
    rw [e7]
    refine ⟨rfl, Zu.imp (Zu.mo (d := 9) (by omega) (zs_5x (d := 0) hP h3)) ?_⟩
    rintro v8 s8 ⟨rfl, e8⟩
    rw [e8]
    refine ⟨rfl, hQ' _ (fun _ => 0) (fun z => absurd z hf) ?_ (fun z => absurd z h3)⟩
    unfold pgF
    rw [ffs_1 hf]
    exact c1
  · obtain ⟨m, w1, w2, w3, w4, w5, w6, w7, w8, w9, w10⟩ := c3 hf
    obtain ⟨Ls, hLs⟩ : ∃ Ls, Ls = l_al K L 4000 0 0 (0, 0) := ⟨_, rfl⟩
    rw [← hLs] at w1 w2 w4 w5
    have hC : dcC K L 0 m Ls := by
      rw [w3, hLs]
      exact dcC_al 4000 0 0 0 w10
    have hlt : m + 1 < (p_e K L 10 false (0, m + 1)).2 := (pe_fw (K := K) (L := L) 10 false (0, m + 1) w8).2
    have hn0 := hX.1
    have hmn : m ≤ n := by omega
    have hm4 : m ≤ 4000 := by omega
    have rr : ∀ a, ¬ a = P + 12 → ¬ a = P + 22 → (∀ r ∈ rwL, ¬ a = P + r) → s3.2 a = s1.2 a := fun a g1 g2 g3 => by rw [c2.2 a g1 g2 g3, a1]
    have lo18 : ∀ a, a < 12 → s3.2 (P + a) = s1.2 (P + a) := fun a ha => rr (P + a) (by omega) (by omega) (fun r hr => by have := rw_b r hr; omega)
    have e4 : KI (s3.2 (P + 4)) = K := by rw [lo18 4 (by omega)]; exact hK.symm
    have e6 : KI (s3.2 (P + 6)) = L := by rw [lo18 6 (by omega)]; exact hL.symm
    have e10 : KI (s3.2 (P + 10)) = W := by rw [lo18 10 (by omega)]; exact hW.symm
    have hM3 : SMz P s3 K W n := by
      unfold SMz okT eqT zpl zln at hM ⊢
      rw [lo18 2 (by omega), lo18 6 (by omega), lo18 8 (by omega)]
      exact hM
    have hD := DB_of hC (Int.le_refl 0) hmn e4 e6 e10 hM3 w1 w2 w4
    obtain ⟨ar, hAr⟩ : ∃ ar, ar = KI (s3.2 (P + 22)) := ⟨_, rfl⟩
    rw [← hAr] at hD har
    have hAt : ∀ (i : Nat) (t : Int), Ls[i]? = some t → ¬ K t = 6 → ar (kTy K (Ls.take i) : Int) = ((tFo K L false (0, t)).length : Int) := fun i t h1 h6 => by
      obtain ⟨-, q, -⟩ := (w2 i t h1).2 h6
      rw [hAr, KI_n]
      exact q
    have hG : GDk K L ar n := fun _ => by
      rw [← hLs, ← w3]
      exact ⟨har, hAt, ⟨w4, w5⟩, w10, w8, w9⟩
    have ePG : pgF K L W ar = ffs (lvF K L W ar Ls (m + 1)) := by
      unfold pgF
      rw [ffs_2 hf, ← hLs, ← w3]
    have h14 : (s3.1 P 14).toInt = 0 := by rw [c1]; exact hf
    -- names told twice
    refine Zu.imp (Zu.mo (d := 12) (by omega) (zs_122 hP hX w1 w2 hC (Int.le_refl 0) hmn hm4 w4 w5 e6 e10 (fun t' _ => me_le) h14)) ?_
    rintro v4 s4 ⟨rfl, d1, d2, r, d3, d4⟩
    refine ⟨rfl, ?_⟩
    have hF2 : (s4.1 P 14).toInt = frst L (twA W K L Ls Ls.length) 0 := by rw [d4, twA_f hX hC (Int.le_refl 0) hmn d3]
    by_cases g2 : (s4.1 P 14).toInt = 0
    rotate_left
    · refine Zu.imp (Zu.mo (d := 9) (by omega) (zs_128x (d := 0) hP g2)) ?_
      rintro v5 s5 ⟨rfl, e5⟩
      rw [e5]
      refine ⟨rfl, Zu.imp (Zu.mo (d := 9) (by omega) (zs_134x (d := 0) hP g2)) ?_⟩
      rintro v6 s6 ⟨rfl, e6⟩
      rw [e6]
      refine ⟨rfl, Zu.imp (Zu.mo (d := 9) (by omega) (zs_136x (d := 0) hP g2)) ?_⟩
      rintro v7 s7 ⟨rfl, e7⟩
      rw [e7]
      refine ⟨rfl, Zu.imp (Zu.mo (d := 9) (by omega) (zs_5x (d := 0) hP g2)) ?_⟩
      rintro v8 s8 ⟨rfl, e8⟩
      rw [e8]
      refine ⟨rfl, hQ' _ ar hG ?_ (fun z => absurd z g2)⟩
      rw [ePG]
      unfold lvF
      rw [ffs_1 (by rw [← hF2]; exact g2)]
      exact hF2
    have g2' : frst L (twA W K L Ls Ls.length) 0 = 0 := by rw [← hF2]; exact g2
    have noS : ∀ v, ¬ SA W K L Ls v := by
      rcases d3 with ⟨-, q⟩ | ⟨q1, q2⟩
      · exact q
      · exfalso
        have q3 := SA_lt hC (Int.le_refl 0) (by omega) q1
        have q4 := hX.2.2 r q3.1 (by omega)
        rw [if_pos (by omega)] at d4
        omega
    have hT34 : TAf P s3 s4 := ⟨fun b q h1 _ => d2 b q (fun w => h1 ⟨w.1, Or.inr w.2⟩), fun r _ _ _ _ _ => by rw [d1], fun i _ => by rw [d1], fun i _ => by rw [d1], fun i _ _ => by rw [d1], fun i _ => by rw [d1]⟩
    have hD4 := DBz_f hP hT34 hD
    have hz4 : ∀ r ∈ rwL, zsz s4 (P + r) = zsz s3 (P + r) := fun r hr => by
      unfold zsz
      rw [d2 (P + r) 2 (by omega)]
    have w1' := RWz_2 d1 hz4 w1
    have w2' := ALz_2 d1 w2
    have f3 : ∀ b q, ¬ (b = 82 ∧ q = 3) → ¬ (b = P ∧ q = 14) → ¬ (b = P ∧ q = 11) → (∀ r ∈ rwL, ¬ (b = P + r ∧ q = 2)) → s4.1 b q = s2.1 b q := fun b q h1 h2 h3 h4 => by rw [d2 b q h2, c2.1 b q h1 h2 h3 h4]
    have h10 : (s4.1 P 10).toInt = 18738 := by
      rw [f3 P 10 (by omega) (by omega) (by omega) (fun r hr => by omega), f2 P 10 (by omega) (by omega)]
      exact t4
    have h75 : (s4.1 75 3).toInt = 18 := by
      rw [f3 75 3 (by omega) (by omega) (by omega) (fun r hr => by omega)]
      exact a2
    have hSG : SGz P s4 := fun i hi => by
      rw [d1, rr (P + 18) (by omega) (by omega) (fun r hr => by have := rw_b r hr; omega), t2 (P + 18) (by unfold tkR; simp only [List.mem_cons, List.not_mem_nil, or_false, not_or]; omega)]
      exact hS i hi
    -- TYPES told
    refine Zu.imp (Zu.mo (d := 35) (by omega) (zs_128 hP hX hD4 w1' w2' hC (Int.le_refl 0) hmn hm4 rfl w5 g2 h10)) ?_
    rintro v5 s5 ⟨rfl, b1, b2, b3⟩
    refine ⟨rfl, ?_⟩
    by_cases g3 : (s5.1 P 14).toInt = 0
    rotate_left
    · refine Zu.imp (Zu.mo (d := 9) (by omega) (zs_134x (d := 0) hP g3)) ?_
      rintro v6 s6 ⟨rfl, e6⟩
      rw [e6]
      refine ⟨rfl, Zu.imp (Zu.mo (d := 9) (by omega) (zs_136x (d := 0) hP g3)) ?_⟩
      rintro v7 s7 ⟨rfl, e7⟩
      rw [e7]
      refine ⟨rfl, Zu.imp (Zu.mo (d := 9) (by omega) (zs_5x (d := 0) hP g3)) ?_⟩
      rintro v8 s8 ⟨rfl, e8⟩
      rw [e8]
      refine ⟨rfl, hQ' _ ar hG ?_ (fun z => absurd z g3)⟩
      rw [ePG]
      unfold lvF
      rw [ffs_2 g2', ffs_1 (by rw [← b2]; exact g3)]
      exact b2
    have g3' : ffs (alFs K L W ar (kdF K L Ls) (tnF K Ls) (hfS K L Ls) 0 Ls) = 0 := by rw [← b2]; exact g3
    have hPR : PRm K L W ar (kdF K L Ls) n 0 m (tnF K Ls) Ls := ⟨⟨hX, hC, Int.le_refl 0, hmn⟩, rfl, ⟨w4, w5⟩, har, fun i t q1 q6 => ⟨hAt i t q1 q6, kdF_at q1 q6⟩, fun c hc => kdF_no hc, g3', noS⟩
    obtain ⟨C5, k18⟩ := CS_k hP hC (Int.le_refl 0) hm4 hm4 hD4 hSG w1' w2' b1 (b3 g3)
    have h75' : (s5.1 75 3).toInt = 18 := by
      rw [b1.1 75 3 (by omega) (by omega)]
      exact h75
    have r5 : s5.2 (P + 12) = s3.2 (P + 12) := by rw [b1.2.1 (P + 12) (by omega) (by omega) (by omega) (by omega) (by omega), d1]
    have f11 : (s5.1 P 11).toInt = m + 1 := by
      rw [b1.1 P 11 (by omega) (by omega), d2 P 11 (by omega)]
      exact w6
    -- bounds
    refine Zu.imp (Zu.mo (d := 13) (by omega) (zs_134 (T := 18) (mv := mvF K L W ar Ls) hP hPR C5 h75' (by decide) g3 rfl)) ?_
    rintro v6 s6 ⟨rfl, l1, l2, l3⟩
    refine ⟨rfl, ?_⟩
    by_cases g4 : (s6.1 P 14).toInt = 0
    rotate_left
    · refine Zu.imp (Zu.mo (d := 9) (by omega) (zs_136x (d := 0) hP g4)) ?_
      rintro v7 s7 ⟨rfl, e7⟩
      rw [e7]
      refine ⟨rfl, Zu.imp (Zu.mo (d := 9) (by omega) (zs_5x (d := 0) hP g4)) ?_⟩
      rintro v8 s8 ⟨rfl, e8⟩
      rw [e8]
      refine ⟨rfl, hQ' _ ar hG ?_ (fun z => absurd z g4)⟩
      rw [ePG]
      unfold lvF
      rw [ffs_2 g2', ffs_2 g3', ffs_1 (by rw [← l3]; exact g4)]
      exact l3
    have g4' : ffs (dLs K L W ar (mvF K L W ar Ls) (tnF K Ls) Ls).flatten = 0 := by rw [← l3]; exact g4
    have C6 := CSz_rf hP (Int.le_refl 18) l1 (fun b => l2 b 2 (by omega) (by omega)) C5
    -- structs that hold themselves
    refine Zu.imp (Zu.mo (d := 18) (by omega) (zs_136 hP hPR C6 g4)) ?_
    rintro v7 s7 ⟨rfl, y1, y2, y3⟩
    refine ⟨rfl, ?_⟩
    by_cases g5 : (s7.1 P 14).toInt = 0
    rotate_left
    · refine Zu.imp (Zu.mo (d := 9) (by omega) (zs_5x (d := 0) hP g5)) ?_
      rintro v8 s8 ⟨rfl, e8⟩
      rw [e8]
      refine ⟨rfl, hQ' _ ar hG ?_ (fun z => absurd z g5)⟩
      rw [ePG]
      unfold lvF
      rw [ffs_2 g2', ffs_2 g3', ffs_2 g4', ffs_1 (by rw [← y3]; exact g5)]
      exact y3
    have g5' : ffs (L5 (eg5 K L W (kdF K L Ls) (tnF K Ls) Ls) L (tnF K Ls)) = 0 := by rw [← y3]; exact g5
    have C7' := CSz_rf (T := 18) (u := s6) (w := s7) hP (Int.le_refl 18) ⟨fun r _ _ _ _ => by rw [y1], fun j _ => by rw [y1]⟩ (fun b => y2 b 2 (by omega)) C6
    have r7 : s7.2 (P + 12) = s3.2 (P + 12) := by rw [y1, l1.1 (P + 12) (by omega) (by omega) (by omega) (by omega), r5]
    have k10 : (s7.1 P 10).toInt = (s5.1 P 10).toInt := by rw [y2 P 10 (by omega), l2 P 10 (by omega) (by omega)]
    have f11' : (s7.1 P 11).toInt = m + 1 := by
      rw [y2 P 11 (by omega), l2 P 11 (by omega) (by omega)]
      exact f11
    have enx : nxE K L (m + 1) = (p_e K L 10 false (0, m + 1)).2 := (pe_g 10 (by decide) false (m + 1) w8).2.2
    have h34 : (s7.1 (P + 34) 2).toInt = 0 := by
      rw [y2 (P + 34) 2 (by omega), l2 (P + 34) 2 (by omega) (by omega), b1.1 (P + 34) 2 (by omega) (by omega), f3 (P + 34) 2 (by omega) (by omega) (by omega) (fun r hr => by have := rw_b r hr; omega), f2 (P + 34) 2 (by omega) (by omega)]
      exact t34
    -- E
    refine Zu.imp (zs_5 hP hPR C7' k10 k18 g5 (fun i t q1 q6 => ?_) f11' w8 (by omega) (by rw [enx]; exact w9) ?_ h34) ?_
    · have q := ((w2 i t q1).1 q6).2.2.2.1
      exact fun x x1 x2 => by rw [r7]; exact q x x1 x2
    · rw [enx]
      exact fun x x1 x2 => by rw [r7]; exact w7 x x1 x2
    rintro v8 s8 ⟨rfl, o1, o2⟩
    refine ⟨rfl, hQ' _ ar hG ?_ (fun z => ?_)⟩
    · rw [ePG]
      unfold lvF
      rw [ffs_2 g2', ffs_2 g3', ffs_2 g4', ffs_2 g5', o1]
      show _ = if _ = 0 then (0 : Int) else _
      split
      · assumption
      · rfl
    · exact ⟨Ls, m, (s5.1 P 10).toInt, ⟨hLs, w3⟩, hPR, o2 z, by rw [← o1]; exact z, w8⟩
theorem zs_140 {Q : Int32 → Prop} (hP : P = 3 ∨ P = 39) (hn : (s.1 1 2).toInt = (N : Int)) (hn4 : N ≤ 4000) (hS : SGz P s) (hQ : ∀ (r : Int32) (z : zS) (ar : Int → Int), TXT s P N z → GDk (KI (z.2 (P + 4))) (KI (z.2 (P + 6))) ar (ntk (z.2 (P + 2)) N) → r.toInt = pgF (KI (z.2 (P + 4))) (KI (z.2 (P + 6))) (KI (z.2 (P + 10))) ar → Q r) : v_140_0 0 P s Q := zs_140x (Q := fun s8 => Q (s8.1 P 14)) hP hn hn4 hS (fun s8 z ar g1 g2 g3 _ => hQ _ z ar g1 g2 g3)
end ZZV
