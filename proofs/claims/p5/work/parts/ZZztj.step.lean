/-! ===== the class: Machine: step, go ===== -/
/-- whether a TYPE without PARAMS meets another -/
def mvC (K L W ar kd : Int → Int) (TN Ls : List Int) (A D : List Int) : Int := mvD K L W ar kd TN Ls A A D
section ZTL
variable {K L W ar kd : Int → Int} {TN Ls : List Int} {n k0 mB k z L0 T l cl fa lo hi pc : Int} {P d b : Nat} {s : zS} {C : List Ins} {st : List Itm} {E : Env} {fr : List Frm} {vs : Vls} {a1 : Int32} {I : Ins} {Y : PMs}
set_option maxHeartbeats 1000000 in
/-- one step -/
theorem zs_20 (hP : P = 3 ∨ P = 39) (h : PRm K L W ar kd n lo hi TN Ls) (hC : PCk K L W ar kd TN Ls mB) (M : MRz K L W ar kd TN Ls n k0 mB P k z L0 (5, C, st, b, E, fr, vs, l, cl, fa) s) (hI : inz P k s pc I) (hK : inK ar (TN.length : Int) (E.1.length : Int) (E.2.length : Int) I) (hpc : a1.toInt = 6 * pc) (hpc0 : 0 ≤ pc ∧ pc ≤ 4001) (hS : PSt ar (fcD K L W ar kd TN Ls) (mvC K L W ar kd TN Ls) (5, I :: C, st, b, E, fr, vs, l, cl, fa) Y) : Zt (d + 45) (wd2 P 20) 20 [.ref 105, .int a1] s (fun r s' => r = none ∧ ROk K L W ar kd TN Ls n k0 mB P k z L0 Y s') := by
  obtain ⟨-, hst, hS⟩ := hS
  obtain ⟨i0, i14, i3, i2, i6, i5⟩ := hI
  obtain ⟨j26, j5, j35⟩ := hK
  rw [show d + 45 = d + 36 + 9 by omega]
  refine zc_20 hP ?_
  unfold v_20_0
  intro x1 hx1 x2 hx2
  have ex1 := hx1 (by omega)
  have ex2 := hx2 (by omega)
  have e0 : Int32.toInt (zg s (P + 34) x2) = I.1 := by
    rw [zg_K, ex2, hpc, Int.add_zero]
    exact i0
  have e1 : (zg s (P + 34) x1).toInt = KI (s.2 (P + 34)) (6 * pc + 1) := by rw [zg_K, ex1, hpc]
  rw [e0]
  refine ⟨fun q => ?_, fun q x5 hx5 x6 hx6 x7 hx7 => ?_, fun q => ?_, fun q x15 hx15 => ?_, fun q => ?_, fun q => ?_, fun q x30 hx30 => ?_⟩
  · -- LEAVE
    rcases hS with ⟨w, -⟩ | ⟨w, -⟩ | ⟨w, -⟩ | ⟨w, -⟩ | ⟨w, -⟩ | ⟨w, -⟩ | ⟨-, s0, v, rfl, hY⟩
    · exact absurd w q.1
    · exact absurd w q.2.1
    · exact absurd w q.2.2.1
    · exact absurd w q.2.2.2.1
    · exact absurd w q.2.2.2.2.1
    · exact absurd w q.2.2.2.2.2
    refine Zt.imp (Zt.mo (d := 18) (by omega) (zs_29 (d := 0) hP M hY)) ?_
    rintro v3 s4 ⟨rfl, g⟩
    unfold v_20_83
    exact ⟨rfl, rfl, g⟩
  · -- VAR
    rcases hS with ⟨-, h0, hfr, v, hv, rfl⟩ | ⟨w, -⟩ | ⟨w, -⟩ | ⟨w, -⟩ | ⟨w, -⟩ | ⟨w, -⟩ | ⟨w, -⟩
    rotate_left
    all_goals try omega
    obtain ⟨M1, T, M2, M3, -, M5, M6, M7⟩ := id M
    have M3 : MFd L0 s st fr vs l cl := M3
    have M5 : STk ar (TN.length : Int) P T k s vs st := M5
    have M6 : VLk ar (TN.length : Int) P T k s vs := M6
    have M7 : FRk ar (TN.length : Int) P T k z s fr b E := M7
    have m6 := M3.1.2.2.2.2.2.1
    have m12 := M3.2.2.2.2.2
    have mv0 := M3.2.2.2.1
    have mL := M3.2.1
    have ex5 := hx5 (by omega)
    have ex6 := hx6 (by omega)
    have eb : (zg s 108 x6).toInt = (b : Int) := by
      cases fr with
      | nil => exact absurd rfl hfr
      | cons q fr =>
        obtain ⟨C', b', E'⟩ := q
        have hl : ((C', b', E') :: fr).length = fr.length + 1 := rfl
        rw [hl] at m6
        rw [zg_K, show x6.toInt = 2 * ((fr.length + 1 : Nat) : Int) + 1 by omega]
        exact M7.1.1
    have en : (zg s (P + 34) x1).toInt = I.2.2.1 := by
      rw [e1]
      exact i14 (Or.inl q)
    have hvl := (List.getElem?_eq_some_iff.mp hv).1
    rw [eb, en] at hx7
    have ex7 := hx7 (by omega)
    have ev : (zg s 106 x7).toInt = (plv vs v : Int) ∧ v < vs.length := by
      have := M5 _ _ hv
      rw [zg_K, ex7, show (b : Int) + I.2.2.1 = ((b + I.2.2.1.toNat : Nat) : Int) by omega]
      exact ⟨this.2, this.1⟩
    have hp7 := plv_7 M6 v (by omega)
    refine Zt.imp (Zt.mo (d := 9) (by omega) (MR_push (d := 0) (it := .inr v) hP M hst (by omega) ⟨ev.2, ev.1⟩)) ?_
    rintro v8 s9 ⟨rfl, g⟩
    unfold v_20_83
    exact ⟨rfl, rfl, fun _ => g, fun w => absurd rfl w⟩
  · -- OPEN
    rcases hS with ⟨w, -⟩ | ⟨-, rfl⟩ | ⟨w, -⟩ | ⟨w, -⟩ | ⟨w, -⟩ | ⟨w, -⟩ | ⟨w, -⟩
    rotate_left
    rotate_left
    all_goals try omega
    have kA := i2 q
    rw [← e1] at kA
    refine Zt.imp (Zt.mo (d := 18) (by omega) (MR_put (d := 0) hP h M (j26 (Or.inl q)) kA)) ?_
    rintro v10 s11 ⟨g1, g2, g3, g4, g5, g6, g8, r, rfl, t1, t2, t3, -⟩
    refine ⟨r, rfl, ?_⟩
    by_cases o5 : (ptT E I.2.1 l).1 = 5
    · obtain ⟨N1, -, tD⟩ := t2 o5
      refine Zt.imp (Zt.mo (d := 9) (by omega) (MR_push (d := 0) (it := .inl (ptT E I.2.1 l).2.1) hP N1 hst (by omega) tD)) ?_
      rintro v13 s14 ⟨rfl, g⟩
      unfold v_20_83
      refine ⟨rfl, rfl, fun _ => ?_, fun w => absurd o5 w⟩
      exact g
    · obtain ⟨-, T, -, M3, -⟩ := id M
      have M3 : MFd L0 s st fr vs l cl := M3
      refine Zt.imp (Zt.mo (d := 9) (by omega) (zs_21 (d := 0) (h := st.length) hP (by omega) (by rw [g6 7 (by decide)]; exact M3.1.2.2.2.2.1) (by omega))) ?_
      rintro v13 s14 ⟨rfl, f1, f2, f3⟩
      unfold v_20_83
      refine ⟨rfl, rfl, fun w => absurd w o5, fun _ => ?_⟩
      obtain ⟨H1, H2, H3, -⟩ := t3 o5
      have fk : ∀ q, ¬ q = 7 → s14.1 105 q = s11.1 105 q := fun q hq => f1 105 q (fun z => hq z.2)
      have R : RUz P 18 s11 s14 := RUz_o hP (fun r h1 _ _ _ => by
        funext j
        rw [f3, if_neg (fun z => h1 z.1)]) (fun c q h1 _ => f1 c q (fun z => h1 z.1))
      refine ⟨PGz_u hP (Int.le_refl _) R H1, ⟨by rw [fk 13 (by decide)]; exact H2.1, by rw [fk 10 (by decide)]; exact H2.2.1, by rw [fk 11 (by decide)]; exact H2.2.2.1, H2.2.2.2⟩, fun w => by rw [fk 12 (by decide)]; exact H3 w, fun w => ?_⟩
      have w : (ptT E I.2.1 l).1 = 0 := w
      rcases ptT_o (E := E) (A := I.2.1) (l := l) with q | q | q <;> omega
  · -- MAKE
    have ex15 := hx15 (by omega)
    have ec : (zg s (P + 34) x15).toInt = I.2.2.1 := by
      rw [zg_K, ex15, hpc]
      exact i3 q
    have j3 := j35 (Or.inl q)
    rcases hS with ⟨w, -⟩ | ⟨w, -⟩ | ⟨-, hY⟩ | ⟨w, -⟩ | ⟨w, -⟩ | ⟨w, -⟩ | ⟨w, -⟩
    rotate_left
    rotate_left
    rotate_left
    all_goals try omega
    rcases hY with ⟨l1, rfl⟩ | ⟨l1, s0, A, ps, rfl, hn, rfl⟩
    · unfold v_20_83
      sorry
    · refine Zt.imp (Zt.mo (d := 18) (by omega) (zs_26 (d := 0) (a1 := zg s (P + 34) x15) hP M (by omega) (by omega) (Or.inr ⟨l1, rfl⟩))) ?_
      rintro v16 s17 ⟨rfl, g⟩
      unfold v_20_83
      exact ⟨rfl, rfl, g⟩
  · sorry
  · sorry
  · sorry
end ZTL
