/-! ===== the class: Stock with all that its Rows hold: goThrough ===== -/
/-- an item is there -/
def InL (ts : List (List Int)) (cs ms : List Cal) (x : Mit) : Prop := (∃ A ∈ ts, x = it0 A) ∨ (∃ X ∈ cs, x = itc X) ∨ ∃ X ∈ ms, x = itm X
/-- behind going through C -/
def GTo (Dr : Mit → Prop) (Bd : Prop) (An : List Int → Cal → List Cal → Prop) (ar : Int → Int) (P : Nat) (η : Nat → List Int) (ts : List (List Int)) (cs ms : List Cal) (C : List Ins) (s : zS) : Prop := ∃ (ws : List (List Int)) (us : List Cal), IOd Dr Bd An ar P s (ts ++ ws) (cs ++ us) ms ∧ ((s.1 197 10).toInt = 0 → ¬ grC η C ∧ ∀ x, hsC ar η C x → InL (ts ++ ws) (cs ++ us) ms x)
section ZVK0
variable {ar : Int → Int} {η : Nat → List Int} {C D : List Ins} {x : Mit} {ts ws : List (List Int)} {cs us ms vs : List Cal} {I : Ins}
theorem InL_app (h : InL ts cs ms x) : InL (ts ++ ws) (cs ++ us) (ms ++ vs) x := by
  rcases h with ⟨A, q, e⟩ | ⟨X, q, e⟩ | ⟨X, q, e⟩
  · exact Or.inl ⟨A, List.mem_append_left _ q, e⟩
  · exact Or.inr (Or.inl ⟨X, List.mem_append_left _ q, e⟩)
  · exact Or.inr (Or.inr ⟨X, List.mem_append_left _ q, e⟩)
theorem hsC_app (h : hsC ar η (C ++ D) x) : hsC ar η C x ∨ hsC ar η D x := by
  rcases h with ⟨I, hI, g⟩ | ⟨I, hI, g⟩
  · rcases List.mem_append.mp hI with q | q
    · exact Or.inl (Or.inl ⟨I, q, g⟩)
    · exact Or.inr (Or.inl ⟨I, q, g⟩)
  · rcases List.mem_append.mp hI with q | q
    · exact Or.inl (Or.inr ⟨I, q, g⟩)
    · exact Or.inr (Or.inr ⟨I, q, g⟩)
theorem grC_app (h : grC η (C ++ D)) : grC η C ∨ grC η D := by
  obtain ⟨I, hI, g⟩ := h
  rcases List.mem_append.mp hI with q | q
  · exact Or.inl ⟨I, q, g⟩
  · exact Or.inr ⟨I, q, g⟩
/-- rows that put nothing -/
theorem tlI_0 (h2 : ¬ I.1 = 2) (h5 : ¬ I.1 = 5) (h6 : ¬ I.1 = 6) : tlI I = [] := by
  unfold tlI
  rw [if_neg (by omega), if_neg h5]
theorem hs_0 (h2 : ¬ I.1 = 2) (h5 : ¬ I.1 = 5) (h6 : ¬ I.1 = 6) : ¬ hsC ar η [I] x := by
  rintro (⟨J, hJ, A, hA, -⟩ | ⟨J, hJ, g, -⟩)
  · rw [List.mem_singleton.mp hJ, tlI_0 h2 h5 h6] at hA
    cases hA
  · rw [List.mem_singleton.mp hJ] at g
    exact h5 g
theorem grC_0 (h2 : ¬ I.1 = 2) (h5 : ¬ I.1 = 5) (h6 : ¬ I.1 = 6) : ¬ grC η [I] := by
  rintro ⟨J, hJ, ⟨A, hA, -⟩ | ⟨g, -⟩⟩
  · rw [List.mem_singleton.mp hJ, tlI_0 h2 h5 h6] at hA
    cases hA
  · rw [List.mem_singleton.mp hJ] at g
    exact h5 g
/-- a row that puts one TYPE -/
theorem tlI_1 (h : I.1 = 2 ∨ I.1 = 6) : tlI I = [I.2.1] := by
  unfold tlI
  rw [if_pos h]
theorem hs_1 (h : I.1 = 2 ∨ I.1 = 6) (g : hsC ar η [I] x) : ∃ i : Nat, i < (sbs η I.2.1).length ∧ x = it0 (subT ar (sbs η I.2.1) i) := by
  rcases g with ⟨J, hJ, A, hA, i, g1, g2⟩ | ⟨J, hJ, g, -⟩
  · rw [List.mem_singleton.mp hJ, tlI_1 h] at hA
    rw [List.mem_singleton.mp hA] at g1 g2
    exact ⟨i, g1, g2⟩
  · rw [List.mem_singleton.mp hJ] at g
    omega
theorem gr_1 (h : I.1 = 2 ∨ I.1 = 6) (g : grC η [I]) : 60 < (sbs η I.2.1).length := by
  obtain ⟨J, hJ, ⟨A, hA, g⟩ | ⟨g, -⟩⟩ := g
  · rw [List.mem_singleton.mp hJ, tlI_1 h] at hA
    rw [List.mem_singleton.mp hA] at g
    exact g
  · rw [List.mem_singleton.mp hJ] at g
    omega
theorem tlI_5 (h : I.1 = 5) : tlI I = I.2.2.2.1 := by
  unfold tlI
  rw [if_neg (by omega), if_pos h]
theorem hs_5 (h : I.1 = 5) (g : hsC ar η [I] x) : (∃ A ∈ I.2.2.2.1, ∃ i : Nat, i < (sbs η A).length ∧ x = it0 (subT ar (sbs η A) i)) ∨ x = itc (sbs η I.2.1, I.2.2.2.2, I.2.2.2.1.map (sbs η)) := by
  rcases g with ⟨J, hJ, A, hA, i, g1, g2⟩ | ⟨J, hJ, -, g⟩
  · rw [List.mem_singleton.mp hJ, tlI_5 h] at hA
    exact Or.inl ⟨A, hA, i, g1, g2⟩
  · rw [List.mem_singleton.mp hJ] at g
    exact Or.inr g
theorem gr_5 (h : I.1 = 5) (g : grC η [I]) : (∃ A ∈ I.2.2.2.1, 60 < (sbs η A).length) ∨ 60 < (sbs η I.2.1).length := by
  obtain ⟨J, hJ, ⟨A, hA, g⟩ | ⟨-, g⟩⟩ := g
  · rw [List.mem_singleton.mp hJ, tlI_5 h] at hA
    exact Or.inl ⟨A, hA, g⟩
  · rw [List.mem_singleton.mp hJ] at g
    exact Or.inr g
theorem hs_in {i : Nat} (hI : C[i]? = some I) (g : hsC ar η [I] x) : hsC ar η C x := by
  have hm := List.mem_of_getElem? hI
  rcases g with ⟨J, hJ, g⟩ | ⟨J, hJ, g⟩
  · rw [List.mem_singleton.mp hJ] at g
    exact Or.inl ⟨I, hm, g⟩
  · rw [List.mem_singleton.mp hJ] at g
    exact Or.inr ⟨I, hm, g⟩
theorem gr_in {i : Nat} (hI : C[i]? = some I) (g : grC η [I]) : grC η C := by
  have hm := List.mem_of_getElem? hI
  obtain ⟨J, hJ, g⟩ := g
  rw [List.mem_singleton.mp hJ] at g
  exact ⟨I, hm, g⟩
end ZVK0
section ZVK
variable {K L W ar kd : Int → Int} {TN Ls : List Int} {n k0 mB k z lo hi pc nX nY : Int} {P d : Nat} {s : zS} {gg : Int × Int} {C C0 : List Ins} {a1 : Int32} {Dr : Mit → Prop} {Bd : Prop} {An : List Int → Cal → List Cal → Prop} {η : Nat → List Int} {ts : List (List Int)} {cs ms : List Cal}
set_option maxHeartbeats 2000000 in
/-- goThrough -/
theorem zi_105 (hP : P = 3 ∨ P = 39) (h : PRm K L W ar kd n lo hi TN Ls) (G : PGz K L W ar kd TN Ls n k0 mB P k z gg s) (hN : SNz s) (hC : C = C0 ++ [lvI]) (hL : LYz P k z s pc C) (hK : cdK ar (TN.length : Int) nX nY C) (hkc : ckC ar (TN.length : Int) nX nY C) (hE : (nX = 0 ∧ nY = 0) ∨ EQe ar P η s) (hI : IOd Dr Bd An ar P s ts cs ms) (h0 : (s.1 197 10).toInt = 0) (h1 : a1.toInt = pc) (hSz : 6 * (pc + (C.length : Int)) ≤ (s.1 (P + 34) 2).toInt) (hNL : ∀ I ∈ C0, ¬ I.1 = 0) (hDr : ∀ x, hsC ar η C x → Dr x) (hBd : grC η C → Bd) : Zt (d + 45) (wd2 P 105) 105 [.ref 197, .int a1] s (fun v s' => v = none ∧ IFz P s s' ∧ GTo Dr Bd An ar P η ts cs ms C s') := by
  obtain ⟨ha, h24⟩ := PR_ar h
  have hz := G.2.1.2.2.2
  have hk82 : k ≤ 82938 := G.2.1.2.2.1
  obtain ⟨L1, L2, L3⟩ := id hL
  refine zc_105 (d := d + 36) hP ?_
  unfold v_105_0
  intro x1 hx1
  have ex1 := hx1 (by omega)
  have hCl : 0 < C.length := by
    rw [hC, List.length_append]
    exact Nat.succ_pos _
  have hC0l : C.length = C0.length + 1 := by rw [hC, List.length_append]; rfl
  refine ⟨fun _ c2 c3 u => c2 = s.1 (P + 34) 2 ∧ SNz u ∧ IFz P s u ∧ ∃ i : Nat, i < C.length ∧ c3.toInt = 6 * (pc + (i : Int)) ∧ GTo Dr Bd An ar P η ts cs ms (C.take i) u, fun _ _ c3 _ => (30000 - c3.toInt).toNat, ⟨rfl, hN, IFz_rf, 0, hCl, by omega, [], [], by rw [List.append_nil, List.append_nil]; exact hI, fun _ => ⟨?_, ?_⟩⟩, ?_⟩
  · rintro ⟨I, hI', -⟩
    cases hI'
  · rintro x (⟨I, hI', -⟩ | ⟨I, hI', -⟩) <;> cases hI'
  rintro c1 c2 c3 u ⟨ec2, Nu, Fu, i, i1, i2, ws, us, Iu, gI⟩
  subst ec2
  obtain ⟨I, hIi⟩ : ∃ I, C[i]? = some I := ⟨_, List.getElem?_eq_getElem i1⟩
  have Gu := PGz_i hP Fu G
  obtain ⟨hA, -⟩ := PG_ar h Gu
  have r34 : u.2 (P + 34) = s.2 (P + 34) := Fu.1 _ (by omega) (by omega) (by omega) (by omega) (by omega) (by omega) (by omega)
  have inu : inz P k u (pc + (i : Int)) I := inz_k (fun j q1 _ => Fu.2.1.1 j (Or.inr (Or.inr q1))) (Int.le_refl _) (fun j _ => by rw [r34]) (by omega) (L3 i I hIi)
  have Eu : (nX = 0 ∧ nY = 0) ∨ EQe ar P η u := by
    rcases hE with q | q
    · exact Or.inl q
    · exact Or.inr (EQe_f Fu.2.1 (Fu.1 76 (by omega) (by decide) (by decide) (by decide) (by decide) (by decide) (by decide)) q)
  have kI := hK I (List.mem_of_getElem? hIi)
  have cI := hkc I (List.mem_of_getElem? hIi)
  have tk : C.take (i + 1) = C.take i ++ [I] := by
    rw [List.take_add_one, hIi]
    rfl
  -- what the row puts is in
  have put : ∀ (w : zS) (ws' : List (List Int)) (us' : List Cal), IOd Dr Bd An ar P w (ts ++ ws ++ ws') (cs ++ us ++ us') ms → ((u.1 197 10).toInt = 0) → ((w.1 197 10).toInt = 0 → ¬ grC η [I] ∧ ∀ x, hsC ar η [I] x → InL (ts ++ ws ++ ws') (cs ++ us ++ us') ms x) → GTo Dr Bd An ar P η ts cs ms (C.take (i + 1)) w := fun w ws' us' Iw z0 g => by
    refine ⟨ws ++ ws', us ++ us', by rw [← List.append_assoc, ← List.append_assoc]; exact Iw, fun z => ?_⟩
    obtain ⟨g1, g2⟩ := g z
    obtain ⟨k1, k2⟩ := gI z0
    rw [tk, ← List.append_assoc, ← List.append_assoc]
    refine ⟨fun q => ?_, fun x hx => ?_⟩
    · rcases grC_app q with q | q
      · exact k1 q
      · exact g1 q
    · rcases hsC_app hx with q | q
      · have := InL_app (ws := ws') (us := us') (vs := []) (k2 x q)
        rw [List.append_nil] at this
        exact this
      · exact g2 x q
  have nxt : ∀ w : zS, ¬ I.1 = 0 → SNz w → IFz P u w → GTo Dr Bd An ar P η ts cs ms (C.take (i + 1)) w → v_105_39 (fun j => Zt (d + 36 + 8) (wd2 P j) j) P (fun a1' a2' a3' s' => (a2' = s.1 (P + 34) 2 ∧ SNz s' ∧ IFz P s s' ∧ ∃ i : Nat, i < C.length ∧ a3'.toInt = 6 * (pc + (i : Int)) ∧ GTo Dr Bd An ar P η ts cs ms (C.take i) s') ∧ (30000 - a3'.toInt).toNat < (30000 - c3.toInt).toNat) c1 (s.1 (P + 34) 2) c3 w (fun v s' => v = none ∧ IFz P s s' ∧ GTo Dr Bd An ar P η ts cs ms C s') := fun w hI0 Nw Fw Gw => by
    unfold v_105_39
    intro x1 hx1
    have ex := hx1 (by omega)
    have hlt : i + 1 < C.length := by
      rcases Nat.lt_or_ge (i + 1) C.length with q | q
      · exact q
      · exfalso
        rw [hC, List.getElem?_append_right (by omega), show i - C0.length = 0 by omega] at hIi
        have : lvI = I := Option.some.inj hIi
        exact hI0 (by rw [← this]; rfl)
    exact ⟨⟨rfl, Nw, IFz_tr Fu Fw, i + 1, hlt, by omega, Gw⟩, by omega⟩
  -- what is left undone
  have cut : ¬ (u.1 197 10).toInt = 0 → GTo Dr Bd An ar P η ts cs ms C u := fun z => ⟨ws, us, Iu, fun z' => absurd z' z⟩
  have cell : ∀ (x : Int32) (o : Int), x.toInt = c3.toInt + o → (zg u (P + 34) x).toInt = KI (u.2 (P + 34)) (6 * (pc + (i : Int)) + o) := fun x o hx => by rw [zg_K, hx, i2]
  unfold v_105_9 v_105_41
  refine ⟨fun y => by omega, fun y => ⟨fun z => ⟨rfl, Fu, cut z⟩, fun zz x1 hx1 => ?_⟩⟩
  have ex := hx1 (by omega)
  have e0 : Int32.toInt (zg u (P + 34) x1) = I.1 := by
    rw [cell x1 0 ex, Int.add_zero]
    exact inu.1
  rw [e0]
  have IuN : IOd Dr Bd An ar P u (ts ++ ws ++ []) (cs ++ us ++ []) ms := by
    rw [List.append_nil, List.append_nil]
    exact Iu
  refine ⟨fun w => nxt u w.1 Nu IFz_rf (put u [] [] IuN zz (fun _ => ⟨grC_0 w.2.1 w.2.2.1 w.2.2.2, fun x hx => absurd hx (hs_0 w.2.1 w.2.2.1 w.2.2.2)⟩)), fun w => ?_, fun w x2 hx2 => ?_, fun w => ?_, fun w x8 hx8 => ?_⟩
  · -- LEAVE: the last
    have hlast : i + 1 = C.length := by
      rcases Nat.lt_or_ge i C0.length with q | q
      · exfalso
        rw [hC, List.getElem?_append_left q] at hIi
        exact hNL I (List.mem_of_getElem? hIi) w
      · omega
    have G := put u [] [] IuN zz (fun _ => ⟨grC_0 (by omega) (by omega) (by omega), fun x hx => absurd hx (hs_0 (by omega) (by omega) (by omega))⟩)
    rw [hlast, List.take_length] at G
    exact ⟨rfl, Fu, G⟩
  · have ex2 := hx2 (by omega)
    have kp := inu.2.2.2.1 w
    rw [← cell x2 1 ex2] at kp
    have tg := kI.1 (Or.inl w)
    have := tg.2.1.1
    have kp1 := kp.1
    have kp2 := kp.2.1
    refine Zt.imp (Zt.mo (d := 27) (by omega) ((zi_106 (d := 0) (η := η) hP hA ha h24 (TGo_q tg) (hE_c Eu tg) ⟨kp1, by omega⟩ kp.2.2 Iu zz (fun _ q hq => hDr _ (hs_in hIi (Or.inl ⟨I, List.mem_singleton.mpr rfl, I.2.1, by rw [tlI_1 (Or.inl w)]; exact List.mem_singleton.mpr rfl, q, hq, rfl⟩))) (fun q => hBd (gr_in hIi ⟨I, List.mem_singleton.mpr rfl, Or.inl ⟨I.2.1, by rw [tlI_1 (Or.inl w)]; exact List.mem_singleton.mpr rfl, q⟩⟩))).sn Nu)) ?_
    rintro v3 s4 ⟨⟨AF, -, ws', x5, I4, rfl, -, m5⟩, N4⟩
    have I4' : IOd Dr Bd An ar P s4 (ts ++ ws ++ ws') (cs ++ us ++ []) ms := by
      rw [List.append_nil]
      exact I4
    refine ⟨x5, rfl, nxt s4 (by omega) N4 (AFz_i AF) (put s4 ws' [] I4' zz (fun z => ?_))⟩
    obtain ⟨m6, m7, -⟩ := m5 z
    refine ⟨fun q => m6 (gr_1 (Or.inl w) q), fun x hx => ?_⟩
    obtain ⟨q, q1, rfl⟩ := hs_1 (Or.inl w) hx
    exact Or.inl ⟨_, m7 q q1, rfl⟩
  · refine Zt.imp (Zt.mo (d := 36) (by omega) ((zi_108 (d := 0) (η := η) (pc := pc + (i : Int)) (nX := nX) (nY := nY) (I := I) hP h Gu Nu ⟨by omega, by omega⟩ inu w kI (cI w) Eu Iu zz (by omega) (fun A hA' _ q hq => hDr _ (hs_in hIi (Or.inl ⟨I, List.mem_singleton.mpr rfl, A, by rw [tlI_5 w]; exact hA', q, hq, rfl⟩))) (hDr _ (hs_in hIi (Or.inr ⟨I, List.mem_singleton.mpr rfl, w, rfl⟩))) (fun A hA' q => hBd (gr_in hIi ⟨I, List.mem_singleton.mpr rfl, Or.inl ⟨A, by rw [tlI_5 w]; exact hA', q⟩⟩)) (fun q => hBd (gr_in hIi ⟨I, List.mem_singleton.mpr rfl, Or.inr ⟨w, q⟩⟩))).sn Nu)) ?_
    rintro v6 s7 ⟨⟨rfl, F7, ws', us', I7, m7⟩, N7⟩
    refine ⟨rfl, nxt s7 (by omega) N7 F7 (put s7 ws' us' I7 zz (fun z => ?_))⟩
    obtain ⟨m8, m9, m10⟩ := m7 z
    refine ⟨fun q => ?_, fun x hx => ?_⟩
    · rcases gr_5 w q with ⟨A, q1, q2⟩ | q
      · exact (m9 A q1).1 q2
      · exact m8 q
    · rcases hs_5 w hx with ⟨A, q1, q, q2, rfl⟩ | rfl
      · exact Or.inl ⟨_, (m9 A q1).2 q q2, rfl⟩
      · exact Or.inr (Or.inl ⟨_, m10, rfl⟩)
  · have ex8 := hx8 (by omega)
    have kp := (inu.2.2.2.2.1 w).1
    rw [← cell x8 1 ex8] at kp
    have tg := kI.1 (Or.inr w)
    have := tg.2.1.1
    have kp1 := kp.1
    have kp2 := kp.2.1
    refine Zt.imp (Zt.mo (d := 27) (by omega) ((zi_106 (d := 0) (η := η) hP hA ha h24 (TGo_q tg) (hE_c Eu tg) ⟨kp1, by omega⟩ kp.2.2 Iu zz (fun _ q hq => hDr _ (hs_in hIi (Or.inl ⟨I, List.mem_singleton.mpr rfl, I.2.1, by rw [tlI_1 (Or.inr w)]; exact List.mem_singleton.mpr rfl, q, hq, rfl⟩))) (fun q => hBd (gr_in hIi ⟨I, List.mem_singleton.mpr rfl, Or.inl ⟨I.2.1, by rw [tlI_1 (Or.inr w)]; exact List.mem_singleton.mpr rfl, q⟩⟩))).sn Nu)) ?_
    rintro v9 s10 ⟨⟨AF, -, ws', x11, I10, rfl, -, m5⟩, N10⟩
    have I10' : IOd Dr Bd An ar P s10 (ts ++ ws ++ ws') (cs ++ us ++ []) ms := by
      rw [List.append_nil]
      exact I10
    refine ⟨x11, rfl, nxt s10 (by omega) N10 (AFz_i AF) (put s10 ws' [] I10' zz (fun z => ?_))⟩
    obtain ⟨m6, m7, -⟩ := m5 z
    refine ⟨fun q => m6 (gr_1 (Or.inr w) q), fun x hx => ?_⟩
    obtain ⟨q, q1, rfl⟩ := hs_1 (Or.inr w) hx
    exact Or.inl ⟨_, m7 q q1, rfl⟩
end ZVK
