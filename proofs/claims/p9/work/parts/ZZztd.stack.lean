/-! ===== the class: Machine, the stack as the pure one says ===== -/
/-- runs on, or has ended -/
def ROk (K L W ar kd : Int → Int) (TN Ls : List Int) (n k0 mB : Int) (P : Nat) (k z : Int) (gg : Int × Int) (L0 : Int) (Y : PMs) (s : zS) : Prop := (Y.1 = 5 → MRz K L W ar kd TN Ls n k0 mB P k z gg L0 Y s) ∧ (¬ Y.1 = 5 → HLz K L W ar kd TN Ls n k0 mB P k z gg L0 Y s)
section ZTF
variable {K L W ar kd : Int → Int} {TN Ls : List Int} {n k0 mB k z L0 T l cl fa o lo hi : Int} {P d b v : Nat} {s s' : zS} {C : List Ins} {st s0 : List Itm} {it : Itm} {E : Env} {fr : List Frm} {vs : Vls} {a1 : Int32} {gg : Int × Int}
theorem plv_7 (h : VLk ar (TN.length : Int) P T k s vs) : ∀ v, v ≤ vs.length → plv vs v ≤ 7 * v
  | 0, _ => Nat.le_refl _
  | v + 1, hv => by
    have ih := plv_7 h v (by omega)
    obtain ⟨q, hq⟩ : ∃ q, vs[v]? = some q := ⟨_, List.getElem?_eq_getElem (by omega)⟩
    have := (h v q.1 q.2 hq).2.1
    rw [plv_s hq]
    omega
/-- push -/
theorem MR_push (hP : P = 3 ∨ P = 39) (M : MRz K L W ar kd TN Ls n k0 mB P k z gg L0 (o, C, st, b, E, fr, vs, l, cl, fa) s) (hl : st.length ≤ 3900) (h1 : -1000 ≤ a1.toInt ∧ a1.toInt ≤ 1000000000) (hit : itz ar (TN.length : Int) P (s.1 75 3).toInt k s vs a1.toInt it) : Zt (d + 9) (wd2 P 21) 21 [.ref 105, .int a1] s (fun v s' => v = none ∧ MRz K L W ar kd TN Ls n k0 mB P k z gg L0 (o, C, st ++ [it], b, E, fr, vs, l, cl, fa) s') := by
  obtain ⟨M1, T, M2, M3, ⟨M4, M4b, M4c⟩, M5, M6, M7⟩ := M
  have M2 : MTp T l s := M2
  have M3 : MFd L0 s st fr vs l cl := M3
  have M4 : LYz P k z s (s.1 105 6).toInt C := M4
  have M5 : STk ar (TN.length : Int) P T k s vs st := M5
  have M6 : VLk ar (TN.length : Int) P T k s vs := M6
  have M7 : FRk ar (TN.length : Int) P T k z s fr b E := M7
  rw [M2.1.1] at hit
  refine Zt.imp (zs_21 (d := d) hP h1 M3.1.2.2.2.2.1 (by omega)) ?_
  rintro w s' ⟨rfl, f1, f2, f3⟩
  refine ⟨rfl, ?_⟩
  have ro : ∀ r, ¬ r = 106 → s'.2 r = s.2 r := fun r hr => by
    funext j
    rw [f3, if_neg (fun z => hr z.1)]
  have R : RUz P T s s' := RUz_o hP (fun r h1 _ _ _ => ro r h1) (fun c q h1 _ => f1 c q (fun z => h1 z.1))
  have hT : 18 ≤ T := by have := M2.1.2.1; omega
  have fk : ∀ q, ¬ q = 7 → s'.1 105 q = s.1 105 q := fun q hq => f1 105 q (fun z => hq z.2)
  have f75 : ∀ q, s'.1 75 q = s.1 75 q := fun q => f1 75 q (fun z => absurd z.1 (by decide))
  refine ⟨PGz_u hP hT R M1, T, ?_, ?_, ⟨?_, M4b, M4c⟩, ?_, VLk_u R (Int.le_refl _) (ro 111 (by decide)) M6, FRk_u hP R (Int.le_refl _) fr b E (fun j _ => by rw [ro 108 (by decide)]) (fun i _ => ro _ (by omega)) M7⟩
  · show MTp T l s'
    unfold MTp
    rw [f75, f75, f75]
    exact M2
  · obtain ⟨⟨m1, m2, m3, m4, m5, m6, m7⟩, m8, m9, m10, m11, m12⟩ := M3
    refine ⟨⟨by rw [fk 13 (by decide)]; exact m1, by rw [fk 9 (by decide)]; exact m2, by rw [fk 10 (by decide)]; exact m3, by rw [fk 11 (by decide)]; exact m4, ?_, by rw [fk 8 (by decide)]; exact m6, by rw [f1 111 2 (fun z => absurd z.1 (by decide))]; exact m7⟩, m8, m9, m10, ?_, m12⟩
    · show _ = (((st ++ [it]).length : Nat) : Int)
      rw [f2, List.length_append]
      show (st.length : Int) + 1 = ((st.length + 1 : Nat) : Int)
      omega
    · show (st ++ [it]).length ≤ 3901
      rw [List.length_append]
      show st.length + 1 ≤ 3901
      omega
  · show LYz P k z s' (s'.1 105 6).toInt C
    rw [fk 6 (by decide)]
    exact RUz_ly hP R M4
  · show STk ar (TN.length : Int) P T k s' vs (st ++ [it])
    intro j x hj
    rcases Nat.lt_or_ge j st.length with q | q
    · rw [List.getElem?_append_left q] at hj
      have := itz_u R (Int.le_refl _) (M5 j x hj)
      rw [KI_p (by omega), show ((j : Int)).toNat = j by omega] at this ⊢
      rw [f3, if_neg (fun z => by omega)]
      exact this
    · rw [List.getElem?_append_right q] at hj
      have hj0 := (List.getElem?_eq_some_iff.mp hj).1
      have hj1 : ([it] : List Itm).length = 1 := rfl
      have ej : j = st.length := by omega
      subst ej
      rw [Nat.sub_self] at hj
      have ex : it = x := Option.some.inj hj
      rw [← ex, KI_p (by omega), show ((st.length : Int)).toNat = st.length by omega, f3, if_pos ⟨rfl, rfl⟩]
      exact itz_u R (Int.le_refl _) hit
/-- pop -/
theorem MR_pop (hP : P = 3 ∨ P = 39) (M : MRz K L W ar kd TN Ls n k0 mB P k z gg L0 (o, C, s0 ++ [it], b, E, fr, vs, l, cl, fa) s) : Zt (d + 9) (wd2 P 22) 22 [.ref 105] s (fun w s' => MRz K L W ar kd TN Ls n k0 mB P k z gg L0 (o, C, s0, b, E, fr, vs, l, cl, fa) s' ∧ (s'.1 75 3).toInt = (s.1 75 3).toInt ∧ s'.2 = s.2 ∧ ∃ x : Int32, w = some (.int x) ∧ itz ar (TN.length : Int) P (s.1 75 3).toInt k s vs x.toInt it) := by
  obtain ⟨M1, T, M2, M3, ⟨M4, M4b, M4c⟩, M5, M6, M7⟩ := M
  have M2 : MTp T l s := M2
  have M3 : MFd L0 s (s0 ++ [it]) fr vs l cl := M3
  have M4 : LYz P k z s (s.1 105 6).toInt C := M4
  have M5 : STk ar (TN.length : Int) P T k s vs (s0 ++ [it]) := M5
  have M6 : VLk ar (TN.length : Int) P T k s vs := M6
  have M7 : FRk ar (TN.length : Int) P T k z s fr b E := M7
  obtain ⟨⟨m1, m2, m3, m4, m5, m6, m7⟩, m8, m9, m10, m11, m12⟩ := M3
  have hl : (s0 ++ [it]).length = s0.length + 1 := by rw [List.length_append]; rfl
  rw [hl] at m5 m11
  refine Zt.imp (zs_22 (d := d) (h := s0.length) hP (by rw [m5]; omega) (by omega)) ?_
  rintro w s' ⟨f1, f2, f3, rfl⟩
  have R : RUz P T s s' := RUz_o hP (fun r _ _ _ _ => by rw [f1]) (fun c q h1 _ => f2 c q (fun z => h1 z.1))
  have hT : 18 ≤ T := by have := M2.1.2.1; omega
  have fk : ∀ q, ¬ q = 7 → s'.1 105 q = s.1 105 q := fun q hq => f2 105 q (fun z => hq z.2)
  have f75 : ∀ q, s'.1 75 q = s.1 75 q := fun q => f2 75 q (fun z => absurd z.1 (by decide))
  refine ⟨⟨PGz_u hP hT R M1, T, ?_, ⟨⟨by rw [fk 13 (by decide)]; exact m1, by rw [fk 9 (by decide)]; exact m2, by rw [fk 10 (by decide)]; exact m3, by rw [fk 11 (by decide)]; exact m4, f3, by rw [fk 8 (by decide)]; exact m6, by rw [f2 111 2 (fun z => absurd z.1 (by decide))]; exact m7⟩, m8, m9, m10, ?_, m12⟩, ⟨?_, M4b, M4c⟩, ?_, VLk_u R (Int.le_refl _) (by rw [f1]) M6, FRk_u hP R (Int.le_refl _) fr b E (fun j _ => by rw [f1]) (fun i _ => by rw [f1]) M7⟩, by rw [f75], f1, _, rfl, ?_⟩
  · show MTp T l s'
    unfold MTp
    rw [f75, f75, f75]
    exact M2
  · show s0.length ≤ 3901
    omega
  · show LYz P k z s' (s'.1 105 6).toInt C
    rw [fk 6 (by decide)]
    exact RUz_ly hP R M4
  · show STk ar (TN.length : Int) P T k s' vs s0
    intro j x hj
    have hj0 := (List.getElem?_eq_some_iff.mp hj).1
    have := itz_u R (Int.le_refl _) (M5 j x (by rw [List.getElem?_append_left hj0]; exact hj))
    rw [f1]
    exact this
  · have := M5 s0.length it (by rw [List.getElem?_append_right (Nat.le_refl _), Nat.sub_self]; rfl)
    rw [KI_p (by omega), show ((s0.length : Int)).toNat = s0.length by omega] at this
    rw [M2.1.1]
    exact this
/-- one STEP is taken -/
theorem MR_take (hP : P = 3 ∨ P = 39) (M : MRz K L W ar kd TN Ls n k0 mB P k z gg L0 (o, C, st, b, E, fr, vs, l, cl, fa) s) (h1 : a1.toInt = 1) : Zt (d + 9) (wd2 P 23) 23 [.ref 105, .int a1] s (fun w s' => s'.2 = s.2 ∧ (∀ c q, ¬ (c = 105 ∧ (q = 9 ∨ q = 10 ∨ q = 13)) → s'.1 c q = s.1 c q) ∧ ((1 ≤ l ∧ w = some (.int 1) ∧ MRz K L W ar kd TN Ls n k0 mB P k z gg L0 (o, C, st, b, E, fr, vs, l - 1, cl, fa) s') ∨ (l < 1 ∧ w = some (.int 0) ∧ HLz K L W ar kd TN Ls n k0 mB P k z gg L0 (2, C, st, b, E, fr, vs, 0, cl, fa) s'))) := by
  obtain ⟨M1, T, M2, M3, ⟨M4, M4b, M4c⟩, M5, M6, M7⟩ := M
  have M2 : MTp T l s := M2
  have M3 : MFd L0 s st fr vs l cl := M3
  have M4 : LYz P k z s (s.1 105 6).toInt C := M4
  have M5 : STk ar (TN.length : Int) P T k s vs st := M5
  have M6 : VLk ar (TN.length : Int) P T k s vs := M6
  have M7 : FRk ar (TN.length : Int) P T k z s fr b E := M7
  obtain ⟨⟨m1, m2, m3, m4, m5, m6, m7⟩, m8, m9, m10, m11, m12⟩ := M3
  refine Zt.imp (zs_23 (d := d) (l := l) (y := L0 - l) hP (by omega) m1 m2 (by omega) m3 (by omega)) ?_
  rintro w s' ⟨f1, f2, f3⟩
  have R : RUz P T s s' := RUz_o hP (fun r _ _ _ _ => by rw [f1]) (fun c q h1 _ => f2 c q (fun z => h1 z.1))
  have hT : 18 ≤ T := by have := M2.1.2.1; omega
  have fk : ∀ q, ¬ (q = 9 ∨ q = 10 ∨ q = 13) → s'.1 105 q = s.1 105 q := fun q hq => f2 105 q (fun z => hq z.2)
  have f75 : ∀ q, s'.1 75 q = s.1 75 q := fun q => f2 75 q (fun z => absurd z.1 (by decide))
  refine ⟨f1, f2, ?_⟩
  rcases f3 with ⟨g1, rfl, g2, g3, g4⟩ | ⟨g1, rfl, g2, g3, g4⟩
  · refine Or.inl ⟨by omega, rfl, PGz_u hP hT R M1, T, ?_, ⟨⟨g2, by rw [g3, h1], by rw [g4]; show _ = L0 - (l - 1); omega, by rw [fk 11 (by decide)]; exact m4, by rw [fk 7 (by decide)]; exact m5, by rw [fk 8 (by decide)]; exact m6, by rw [f2 111 2 (fun z => absurd z.1 (by decide))]; exact m7⟩, ?_, ?_, ?_, m11, m12⟩, ⟨?_, M4b, M4c⟩, STk_u R (Int.le_refl _) (fun j _ => by rw [f1]) M5, VLk_u R (Int.le_refl _) (by rw [f1]) M6, FRk_u hP R (Int.le_refl _) fr b E (fun j _ => by rw [f1]) (fun i _ => by rw [f1]) M7⟩
    · show MTp T (l - 1) s'
      unfold MTp at M2 ⊢
      rw [f75, f75, f75]
      exact ⟨⟨M2.1.1, M2.1.2.1, by have := M2.1.2.2; omega⟩, M2.2⟩
    · show 0 ≤ l - 1 ∧ l - 1 ≤ L0 ∧ L0 ≤ 5000
      omega
    · show 0 ≤ cl ∧ cl ≤ L0 - (l - 1)
      omega
    · show (vs.length : Int) ≤ L0 - (l - 1)
      omega
    · show LYz P k z s' (s'.1 105 6).toInt C
      rw [fk 6 (by decide)]
      exact RUz_ly hP R M4
  · refine Or.inr ⟨by omega, rfl, PGz_u hP hT R M1, ⟨g2, ?_, by rw [fk 11 (by decide)]; exact m4, ?_⟩, fun w => absurd (show (2 : Int) = 1 from w) (by decide), fun w => absurd (show (2 : Int) = 0 from w) (by decide)⟩
    · rw [g4]
      show _ = L0 - 0
      omega
    · show 0 ≤ (0 : Int) ∧ (0 : Int) ≤ L0
      omega
end ZTF
