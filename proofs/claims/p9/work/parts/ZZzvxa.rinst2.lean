/-! ===== the reference: instances, whole ===== -/
section ZVXA
variable {own : Nat → Nat × Nat} {b n N T F H S0 Fk Hk : Nat} {G : PG} {S O : Nat} {ar kd : Int → Int} {nT Z Ag : Int} {wr hw : Nat → Int} {fx : Int → Int → Int} {Dr : Mit → Prop} {Bd : Prop} {its ws ls : List Mit} {s s' u f : yS} {c d j k : Nat} {cf hb ow : Nat → Int} {fs : Nat → Nat} {hd : Nat → Nat × Nat × List (List Int)} {tm tn : Int → Nat} {Bf : Int → List (List Int)} {Cm : List Ins} {cd : Int → List Ins} {a1 a2 a3 : Int32} {mv : List Int → List Int → Int} {fo : Int → Int → Int} {st : Int → Prop}
theorem hs_2 {η : Nat → List Int} {C : List Ins} {x : Mit} (h : hsC ar η C x) : x.1 ≤ 2 := by
  rcases h with ⟨I, -, A, -, i, -, rfl⟩ | ⟨I, -, -, rfl⟩
  · exact show (0 : Nat) ≤ 2 by decide
  · exact show (1 : Nat) ≤ 2 by decide
theorem DrM_2 {x : Mit} (h : DrM ar Cm cd fo st mv x) : x.1 ≤ 2 := h (fun x => x.1 ≤ 2) ⟨fun x hx => hs_2 hx, fun t w Ts A _ _ _ _ => Nat.le_refl 2, fun A f Ts x _ hx => hs_2 hx⟩
theorem of_len : ∀ ls : List Mit, (∀ x ∈ ls, x.1 ≤ 2) → (ofS 0 ls).length + (ofS 1 ls).length + (ofS 2 ls).length = ls.length
  | [], _ => rfl
  | x :: ls, h => by
    have ih := of_len ls (fun y hy => h y (List.mem_cons_of_mem _ hy))
    have hx := h x List.mem_cons_self
    have g : ∀ k : Nat, (ofS k (x :: ls)).length = (ofS k ls).length + (if x.1 = k then 1 else 0) := fun k => by
      unfold ofS
      by_cases e : x.1 = k
      · rw [if_pos e, List.filter_cons_of_pos (by simpa using e), List.length_cons]
      · rw [if_neg e, List.filter_cons_of_neg (by simpa using e)]
        rfl
    rw [g 0, g 1, g 2, List.length_cons]
    by_cases e0 : x.1 = 0
    · rw [if_pos e0, if_neg (by omega), if_neg (by omega)]
      omega
    · by_cases e1 : x.1 = 1
      · rw [if_neg e0, if_pos e1, if_neg (by omega)]
        omega
      · rw [if_neg e0, if_neg e1, if_pos (by omega)]
        omega
theorem of_mem {x : Mit} : x ∈ ofS k ls ↔ x ∈ ls ∧ x.1 = k := by
  unfold ofS
  rw [List.mem_filter]
  exact ⟨fun h => ⟨h.1, of_decide_eq_true h.2⟩, fun h => ⟨h.1, decide_eq_true h.2⟩⟩
theorem of_nd (h : ls.Nodup) : (ofS k ls).Nodup := List.Nodup.sublist List.filter_sublist h
theorem of_all (h2 : ∀ x ∈ ls, x.1 ≤ 2) {x : Mit} : x ∈ ofS 0 ls ++ ofS 1 ls ++ ofS 2 ls ↔ x ∈ ls := by
  rw [List.mem_append, List.mem_append, of_mem, of_mem, of_mem]
  refine ⟨fun h => ?_, fun h => ?_⟩
  · rcases h with (h | h) | h
    · exact h.1
    · exact h.1
    · exact h.1
  · have := h2 x h
    by_cases e0 : x.1 = 0
    · exact Or.inl (Or.inl ⟨h, e0⟩)
    · by_cases e1 : x.1 = 1
      · exact Or.inl (Or.inr ⟨h, e1⟩)
      · exact Or.inr ⟨h, by omega⟩
theorem MkO_l {cl : (Mit → Prop) → Prop} {ok : Prop} (hn : ls.Nodup) (h2 : ∀ x ∈ ls, x.1 ≤ 2) (hD : ∀ x ∈ ls, Dr x) (h1 : ok → cl (fun x => x ∈ ls) ∧ ¬ Bd ∧ ls.length ≤ 150) (h0 : ¬ ok → Bd ∨ 151 ≤ ls.length) : MkO Dr Bd cl ok (ofS 0 ls) (ofS 1 ls) (ofS 2 ls) := by
  have hl := of_len ls h2
  refine ⟨⟨⟨of_nd hn, of_nd hn, of_nd hn⟩, fun x hx => (of_mem.mp hx).2, fun x hx => (of_mem.mp hx).2, fun x hx => (of_mem.mp hx).2⟩, fun x hx => hD x ((of_all h2).mp hx), fun z => ?_, fun z => ?_⟩
  · obtain ⟨g1, g2, g3⟩ := h1 z
    have e : (fun x : Mit => x ∈ ofS 0 ls ++ ofS 1 ls ++ ofS 2 ls) = (fun x : Mit => x ∈ ls) := funext fun x => propext (of_all h2)
    rw [e]
    exact ⟨g1, g2, by omega⟩
  · rcases h0 z with q | q
    · exact Or.inl q
    · exact Or.inr (by omega)
set_option maxHeartbeats 4000000 in
/-- till nothing new is there -/
theorem in54p {Φ : Option Value → yS → Prop} (hW : WLD own b n N T F H S0 G S O s ar kd cf fs Fk Hk nT tm tn hd hb ow hw Bf Ag Z wr fx Cm cd) (hI : INVi own b n N T F H S0 G S s ar nT Hk wr hw fx (DrM ar Cm cd fx (fun c => kd c = 1) (mvR ar kd cf fs Fk tm tn hw hd)) (BdM ar Cm cd fx (fun c => kd c = 1) (mvR ar kd cf fs Fk tm tn hw hd)) Cm cd its f) (hΦ : ∀ (its ls : List Mit) (s' : yS), RIl ar nT wr hw Hk fx (DrM ar Cm cd fx (fun c => kd c = 1) (mvR ar kd cf fs Fk tm tn hw hd)) (BdM ar Cm cd fx (fun c => kd c = 1) (mvR ar kd cf fs Fk tm tn hw hd)) its s' → JF nK 0 20000 100000 0 s s' → (s'.1 110).toInt = 1 → MkO (DrM ar Cm cd fx (fun c => kd c = 1) (mvR ar kd cf fs Fk tm tn hw hd)) (BdM ar Cm cd fx (fun c => kd c = 1) (mvR ar kd cf fs Fk tm tn hw hd)) (clM ar Cm cd fx (fun c => kd c = 1) (mvR ar kd cf fs Fk tm tn hw hd)) (¬ (s'.1 109).toInt = -1) (ofS 0 ls) (ofS 1 ls) (ofS 2 ls) → (¬ (s'.1 109).toInt = -1 → ls = its ∧ (s'.1 109).toInt = ((ofS 2 its).length : Int)) → Φ (some (.int (s'.1 109))) s') : ubl_257_54 (Par d) a1 (-1) f Φ := by
  have m1 : (-1 : Int32).toInt = -1 := by decide
  obtain ⟨mv, hmv⟩ : ∃ mv, mv = mvR ar kd cf fs Fk tm tn hw hd := ⟨_, rfl⟩
  obtain ⟨Dr, hDr⟩ : ∃ Dr, Dr = DrM ar Cm cd fx (fun c => kd c = 1) mv := ⟨_, rfl⟩
  obtain ⟨Bd, hBd⟩ : ∃ Bd, Bd = BdM ar Cm cd fx (fun c => kd c = 1) mv := ⟨_, rfl⟩
  rw [← hmv, ← hDr, ← hBd] at hI hΦ
  obtain ⟨R54, hR54⟩ : ∃ R : Int32 → Int32 → yS → Prop, R = fun z1 z2 g => ∃ ws : List Mit, INVi own b n N T F H S0 G S s ar nT Hk wr hw fx Dr Bd Cm cd (its ++ ws) g ∧ z2.toInt ≤ ((its ++ ws).length : Int) ∧ (¬ (g.1 111).toInt = 0 → ∀ c j : Nat, (c : Int) < z2.toInt → (j : Int) < z2.toInt → PRr kd mv fx (its ++ ws) c j) := ⟨_, rfl⟩
  refine ⟨R54, ?_, ?_⟩
  · rw [hR54]
    exact ⟨[], by rw [List.append_nil]; exact hI, by omega, fun _ c j hc _ => absurd hc (by omega)⟩
  intro z1 z2 g hg
  rw [hR54] at hg
  obtain ⟨ws, gI, k1, k2⟩ := hg
  obtain ⟨⟨R, gL⟩, gR, g110, gD⟩ := id gI
  have hlen : (g.1 112).toInt = ((its ++ ws).length : Int) := gR.1.1
  have hl150 := gR.1.2
  have out : (z2.toInt = (g.1 112).toInt ∨ (g.1 111).toInt = 0) → ub_257_119 (Par d) z1 z2 g Φ := fun hend => by
    have fin : ∀ (x : Int32) (s1 : yS), s1 = sf g 109 x → ((g.1 111).toInt = 0 ∧ x.toInt = -1 ∨ ¬ (g.1 111).toInt = 0 ∧ x.toInt = ((ofS 2 (its ++ ws)).length : Int)) → Φ (some (.int (s1.1 109))) s1 := fun x s1 hs1 hx => by
      have F1 : ∀ q, s1.1 q = if q = 109 then x else g.1 q := fun q => by rw [hs1, sfr_1]
      have r1 : s1.2 = g.2 := by rw [hs1, sfr_2]
      have I1 : RIl ar nT wr hw Hk fx Dr Bd (its ++ ws) s1 := RIl_f gR (by rw [F1, if_neg (by decide)]) (by rw [F1, if_neg (by decide)]) (fun q j _ _ _ => by rw [r1]) (fun j _ _ => by rw [r1]) (fun w => gR.2.2.2.2 (by rw [F1, if_neg (by decide)] at w; exact w))
      have J1 : JF nK 0 20000 100000 0 s s1 := by
        rw [hs1]
        exact JF_sf gL.1 (by decide)
      have h109 : s1.1 109 = x := by rw [F1, if_pos rfl]
      have hx2 : ∀ y, Dr y → y.1 ≤ 2 := fun y hy => by
        rw [hDr] at hy
        exact DrM_2 hy
      have nd := gR.2.2.2.1.1
      have hall := gR.2.2.2.1.2
      rcases hx with ⟨x1, x2⟩ | ⟨x1, x2⟩
      · rcases gR.2.2.2.2 x1 with q | ⟨y, y1, y2, y3⟩
        · exact hΦ (its ++ ws) (its ++ ws) s1 I1 J1 (by rw [F1, if_neg (by decide)]; exact g110) (MkO_l nd (fun x hx => hx2 x (hall x hx)) hall (fun z => absurd (by rw [h109]; exact x2) z) (fun _ => Or.inl q)) (fun z => absurd (by rw [h109]; exact x2) z)
        · have nd2 : (its ++ ws ++ [y]).Nodup := nd_snoc nd y2
          have hall2 : ∀ x ∈ its ++ ws ++ [y], Dr x := fun x hx => by
            rcases List.mem_append.mp hx with q | q
            · exact hall x q
            · rw [List.mem_singleton.mp q]
              exact y1
          exact hΦ (its ++ ws) (its ++ ws ++ [y]) s1 I1 J1 (by rw [F1, if_neg (by decide)]; exact g110) (MkO_l nd2 (fun x hx => hx2 x (hall2 x hx)) hall2 (fun z => absurd (by rw [h109]; exact x2) z) (fun _ => Or.inr (by
            rw [List.length_append, y3]
            exact Nat.le_refl 151))) (fun z => absurd (by rw [h109]; exact x2) z)
      · have ez : z2.toInt = (g.1 112).toInt := hend.resolve_right x1
        obtain ⟨dm, bd⟩ := gD x1
        have pr := k2 x1
        have cl : clM ar Cm cd fx (fun c => kd c = 1) mv (fun x => x ∈ its ++ ws) := by
          refine ⟨dm.2, fun t w Ts A h1 h0 hs hm => ?_, fun A f Ts x h2 hx => (bd A f Ts h2).2 x hx⟩
          obtain ⟨c, hc⟩ := List.getElem?_of_mem h1
          obtain ⟨j, hj⟩ := List.getElem?_of_mem h0
          have hcl := (List.getElem?_eq_some_iff.mp hc).1
          have hjl := (List.getElem?_eq_some_iff.mp hj).1
          exact (pr c j (by omega) (by omega) t w Ts A hc hj hs).2 hm
        have din : ∀ y, Dr y → y ∈ its ++ ws := fun y hy => by
          rw [hDr] at hy
          exact hy _ cl
        have nb : ¬ Bd := fun hb' => by
          rw [hBd] at hb'
          rcases hb' with q | ⟨A, f, Ts, q1, q2⟩ | ⟨t, w, Ts, A, q1, q2, q3, q4⟩
          · exact dm.1 q
          · exact (bd A f Ts (q1 _ cl)).1 q2
          · obtain ⟨c, hc⟩ := List.getElem?_of_mem (q1 _ cl)
            obtain ⟨j, hj⟩ := List.getElem?_of_mem (q2 _ cl)
            have hcl := (List.getElem?_eq_some_iff.mp hc).1
            have hjl := (List.getElem?_eq_some_iff.mp hj).1
            exact (pr c j (by omega) (by omega) t w Ts A hc hj q3).1 q4
        exact hΦ (its ++ ws) (its ++ ws) s1 I1 J1 (by rw [F1, if_neg (by decide)]; exact g110) (MkO_l nd (fun x hx => hx2 x (hall x hx)) hall (fun _ => ⟨cl, nb, hl150⟩) (fun z => absurd (fun w => by rw [h109] at w; omega) z)) (fun _ => ⟨rfl, by rw [h109]; exact x2⟩)
    unfold ub_257_119 ub_257_128
    refine ⟨fun h0 s1 hs1 => fin (-1) s1 hs1 (Or.inl ⟨h0, m1⟩), fun h0 => ?_⟩
    refine Par.imp (x_258 (k := 2) gR (by decide)) ?_
    rintro vv w ⟨es, x3, rfl, q1⟩
    have es := es.symm
    subst es
    exact ⟨x3, rfl, fun s1 hs1 => fin x3 s1 hs1 (Or.inr ⟨h0, q1⟩)⟩
  unfold ub_257_54
  refine ⟨fun h => out (Or.inl h), fun hne => ⟨fun h => out (Or.inr h), fun hf => ?_⟩⟩
  obtain ⟨L, hL⟩ : ∃ L : Nat, L = (its ++ ws).length := ⟨_, rfl⟩
  obtain ⟨R66, hR66⟩ : ∃ R : Int32 → Int32 → Int32 → yS → Prop, R = fun y1 y2 y3 t => y1 = z1 ∧ y2 = g.1 112 ∧ ∃ (us : List Mit) (i : Nat), INVi own b n N T F H S0 G S s ar nT Hk wr hw fx Dr Bd Cm cd (its ++ ws ++ us) t ∧ y3.toInt = (i : Int) ∧ i ≤ (its ++ ws ++ us).length ∧ (¬ (t.1 111).toInt = 0 → ∀ c j : Nat, c < i → j < L → PRr kd mv fx (its ++ ws ++ us) c j) := ⟨_, rfl⟩
  refine ⟨R66, ?_, ?_⟩
  · rw [hR66]
    exact ⟨rfl, rfl, [], 0, by rw [List.append_nil]; exact gI, by decide, Nat.zero_le _, fun _ c j hc _ => absurd hc (Nat.not_lt_zero _)⟩
  intro y1 y2 y3 t ht
  rw [hR66] at ht
  obtain ⟨e1, e2, us, i, tI, i1, i2, i3⟩ := ht
  have e1 := e1.symm
  have e2 := e2.symm
  subst e1 e2
  obtain ⟨⟨R', tL⟩, tR, -⟩ := id tI
  have tlen : (t.1 112).toInt = ((its ++ ws ++ us).length : Int) := tR.1.1
  have tl150 := tR.1.2
  have lu : (its ++ ws ++ us).length = L + us.length := by rw [List.length_append, hL]
  have back : (L ≤ i ∨ (t.1 111).toInt = 0) → ub_257_118 (Par d) R54 z1 (g.1 112) y3 t Φ := fun h => by
    unfold ub_257_118
    rw [hR54]
    have ea : its ++ ws ++ us = its ++ (ws ++ us) := List.append_assoc _ _ _
    refine ⟨ws ++ us, by rw [← ea]; exact tI, by rw [← ea]; omega, fun hf' c j hc hj => ?_⟩
    rw [← ea]
    refine i3 hf' c j ?_ (by omega)
    rcases h with q | q
    · omega
    · exact absurd q hf'
  unfold ub_257_66
  refine ⟨fun hend => back (Or.inl (by omega)), fun hlt => ⟨fun hf' => back (Or.inr hf'), fun hf' => ?_⟩⟩
  have hil : i < (its ++ ws ++ us).length := by omega
  refine in75p (c := i) (its := its ++ ws ++ us) hW (by rw [← hmv, ← hDr, ← hBd]; exact tI) i1 hil (fun vs q hq hpr x hx => ?_)
  rw [← hmv, ← hDr, ← hBd] at hq
  rw [← hmv] at hpr
  rw [hR66]
  have lv : (its ++ ws ++ us ++ vs).length = (its ++ ws ++ us).length + vs.length := by rw [List.length_append]
  have ea : its ++ ws ++ (us ++ vs) = its ++ ws ++ us ++ vs := (List.append_assoc _ _ _).symm
  refine ⟨rfl, rfl, us ++ vs, i + 1, by rw [ea]; exact hq, by omega, by rw [ea]; omega, fun hz c j hc hj => ?_⟩
  rw [ea]
  rcases Nat.lt_or_eq_of_le (Nat.le_of_lt_succ hc) with q' | q'
  · exact PRr_a (by omega) (by omega) (i3 hf' c j q' hj)
  · rw [q']
    exact hpr hz j (by omega)
set_option maxHeartbeats 4000000 in
/-- instances -/
theorem x_257 (hC : ¬ (s.1 90).toInt = 0 → (CK own b n N T F H S0 G s ∧ MN b n N H G S O s ∧ (s.1 29).toInt = (b : Int)) ∧ WLD own b n N T F H S0 G S O s ar kd cf fs Fk Hk nT tm tn hd hb ow hw Bf Ag Z wr fx Cm cd ∧ (∃ (fu : Nat) (C0 : List Ins), Cm = C0 ++ [lvI] ∧ nNd ar 1000 2000 Z wr hw Hk s fu (s.2.1 259 b).toInt C0) ∧ ∀ I ∈ Cm, gdI ar nT 0 0 I) : Par d 257 [.ref 213] s (fun v s' => ∃ r : Int32, v = some (.int r) ∧ (((s.1 90).toInt = 0 ∧ r.toInt = -1 ∧ s' = sf s 0 0) ∨ (¬ (s.1 90).toInt = 0 ∧ ¬ (s.1 110).toInt = 0 ∧ r = s.1 109 ∧ s' = sf s 0 0) ∨ (¬ (s.1 90).toInt = 0 ∧ (s.1 110).toInt = 0 ∧ JF nK 0 20000 100000 0 s s' ∧ (s'.1 110).toInt = 1 ∧ r = s'.1 109 ∧ ∃ its ls : List Mit, RIl ar nT wr hw Hk fx (DrM ar Cm cd fx (fun c => kd c = 1) (mvR ar kd cf fs Fk tm tn hw hd)) (BdM ar Cm cd fx (fun c => kd c = 1) (mvR ar kd cf fs Fk tm tn hw hd)) its s' ∧ MkO (DrM ar Cm cd fx (fun c => kd c = 1) (mvR ar kd cf fs Fk tm tn hw hd)) (BdM ar Cm cd fx (fun c => kd c = 1) (mvR ar kd cf fs Fk tm tn hw hd)) (clM ar Cm cd fx (fun c => kd c = 1) (mvR ar kd cf fs Fk tm tn hw hd)) (¬ (s'.1 109).toInt = -1) (ofS 0 ls) (ofS 1 ls) (ofS 2 ls) ∧ (¬ (s'.1 109).toInt = -1 → ls = its ∧ (s'.1 109).toInt = ((ofS 2 its).length : Int))))) := by
  cases d with
  | zero => exact Par_0
  | succ d =>
    refine pb_257 ?_
    unfold ub_257_0
    intro s1 hs1
    have m1 : (-1 : Int32).toInt = -1 := by decide
    have F1 : ∀ q, s1.1 q = if q = 0 then 0 else s.1 q := fun q => by rw [hs1, sfr_1]
    have k90 : s1.1 90 = s.1 90 := by rw [F1, if_neg (by decide)]
    have k110 : s1.1 110 = s.1 110 := by rw [F1, if_neg (by decide)]
    have k109 : s1.1 109 = s.1 109 := by rw [F1, if_neg (by decide)]
    rw [k90, k110, k109]
    refine ⟨fun h90 => ⟨fun h110 => ?_, fun h110 => ⟨_, rfl, Or.inr (Or.inl ⟨h90, h110, rfl, hs1⟩)⟩⟩, fun h90 => ⟨-1, rfl, Or.inl ⟨h90, m1, hs1⟩⟩⟩
    obtain ⟨⟨hC, hM, h29⟩, hW, ⟨fu, C0, hCm, hMn⟩, hgd⟩ := hC h90
    obtain ⟨d1, d2, d3, d4, d5, d6, d7, d8, d9, d10⟩ := id hC
    obtain ⟨⟨hPT, hN6, hO, hS⟩, hG, ⟨hAg, hb2, hZ⟩, hwr, hfxe, hN, hFF⟩ := id hW
    have hb := d1.1
    subst hs1
    rintro s2 rfl s3 rfl s4 rfl s5 rfl s6 rfl s7 rfl s8 rfl
    have e75 : s.1 29 = s.1 75 := Int32.toInt_inj.mp (by omega)
    obtain ⟨t, ht⟩ : ∃ t, t = sf (sf (sf (sf (sf (sf (sf (sf s 0 0) 110 1) 75 ((sf (sf s 0 0) 110 1).1 29)) 112 0) 118 20000) 111 1) 64 100000) 70 0 := ⟨_, rfl⟩
    rw [← ht]
    have t2 : t.2 = s.2 := by rw [ht]; rfl
    have tk : ∀ k, k ∉ nK → t.1 k = s.1 k := by
      intro k hk
      have hh : ∀ j, j ∈ nK → ¬ k = j := fun j hj w => hk (by rw [w]; exact hj)
      rw [ht, sf_1, if_neg (hh 70 (by decide)), sf_1, if_neg (hh 64 (by decide)), sf_1, if_neg (hh 111 (by decide)), sf_1, if_neg (hh 118 (by decide)), sf_1, if_neg (hh 112 (by decide)), sf_1]
      by_cases e : k = 75
      · rw [if_pos e, e]
        show s.1 29 = s.1 75
        exact e75
      · rw [if_neg e, sf_1, if_neg (hh 110 (by decide)), sf_1, if_neg (hh 0 (by decide))]
    have t70 : (t.1 70).toInt = ((0 : Nat) : Int) := by rw [ht]; rfl
    have t64 : (t.1 64).toInt = ((100000 : Nat) : Int) := by rw [ht]; rfl
    have t111 : (t.1 111).toInt = 1 := by rw [ht]; rfl
    have t110 : (t.1 110).toInt = 1 := by rw [ht]; rfl
    have t112 : (t.1 112).toInt = ((0 : Nat) : Int) := by rw [ht]; rfl
    have t118 : (t.1 118).toInt = ((20000 : Nat) : Int) := by rw [ht]; rfl
    clear ht
    refine Par.imp (Tot_Par (s_188 (d := 0) (E := 0) t70 (by omega))) ?_
    rintro v u ⟨rfl, x, hx, hu⟩
    refine ⟨t.1 70, rfl, ?_⟩
    refine Par.imp (Tot_Par (s_206 (d := 0))) ?_
    rintro v u' ⟨rfl, hu'⟩
    refine ⟨rfl, ?_⟩
    have uc : ∀ q i, ¬ (q = 266 ∧ i < 2) → u'.2.1 q i = s.2.1 q i := fun q i w => by
      rw [hu', ← t2]
      show u.2.1 q i = _
      rw [hu]
      show (sa (sa t 266 (2 * 0) 0) 266 (2 * 0 + 1) 0).2.1 q i = _
      rw [sa_2, if_neg (fun w' => w ⟨w'.1, by omega⟩), sa_2, if_neg (fun w' => w ⟨w'.1, by omega⟩)]
    have u0 : (u'.2.1 266 0).toInt = 0 := by
      rw [hu']
      show (u.2.1 266 0).toInt = 0
      rw [hu]
      show ((sa (sa t 266 (2 * 0) 0) 266 (2 * 0 + 1) 0).2.1 266 0).toInt = 0
      rw [sa_2, if_neg (fun w => by omega), sa_2, if_pos ⟨rfl, rfl⟩]
      decide
    have u1 : (u'.2.1 266 1).toInt = 0 := by
      rw [hu']
      show (u.2.1 266 1).toInt = 0
      rw [hu]
      show ((sa (sa t 266 (2 * 0) 0) 266 (2 * 0 + 1) 0).2.1 266 1).toInt = 0
      rw [sa_2, if_pos ⟨rfl, rfl⟩]
      decide
    have uk : ∀ k, k ∉ [70, 76, 77, 78] → u'.1 k = t.1 k := fun k hk => by
      rw [hu', sf_1, if_neg (fun w => hk (by rw [w]; decide)), sf_1, if_neg (fun w => hk (by rw [w]; decide)), sf_1, if_neg (fun w => hk (by rw [w]; decide)), hu, sf_1, if_neg (fun w => hk (by rw [w]; decide))]
      rfl
    have u70 : (u'.1 70).toInt = 1 := by
      rw [hu']
      show (u.1 70).toInt = _
      rw [hu]
      show x.toInt = _
      omega
    have ul : u'.2.2 = s.2.2 := by rw [hu', ← t2]; show u.2.2 = _; rw [hu]; rfl
    clear hu hu'
    have uJ : JF nK 0 20000 100000 0 s u' := ⟨fun k hk => (uk k (fun w => hk ((show ∀ k ∈ [70, 76, 77, 78], k ∈ nK by decide) k w))).trans (tk k hk), fun q i _ _ c2 _ => uc q i (fun w => c2 ⟨Or.inr w.1, by omega⟩), ul, fun i => by rw [uc 264 i (fun w => by omega)]; exact d5 i, fun i => by rw [uc 265 i (fun w => by omega)]; exact d6 i⟩
    have uW : RW G 0 20000 u' := ⟨by rw [uk 112 (by decide)]; exact t112, by omega, by rw [uk 118 (by decide)]; exact t118, Nat.le_refl _, by omega, Or.inr (by rw [uk 111 (by decide)]; exact t111), fun i hi => by omega⟩
    have uC := JF_CK hC uJ (by decide) (Nat.le_refl _) (Nat.le_refl _)
    have uI : IWm own b n N T F H S0 G S 0 20000 100000 u' := ⟨uC, uW, by rw [uk 64 (by decide)]; exact t64, Nat.le_refl _, by omega, hS⟩
    obtain ⟨e, l, hh, A, k1, k2, k3, k4, k5, k6⟩ := MN_ca (s' := u') hM (by rw [JF_row uJ (by decide)]) (by rw [JF_row uJ (by decide)]) (fun i _ _ => by rw [JF_row uJ (by decide)]) (fun l h _ _ => JF_CA uJ hS (Nat.le_refl _) (Nat.le_refl _))
    have hg0 := uC.2.2.2.2.2.1 0
    have hg1 := uC.2.2.2.2.2.1 1
    have uV : JE u' 0 100000 (u'.2.1 265 0).toInt.toNat [] (u'.2.1 265 1).toInt.toNat [] := by
      refine ⟨⟨⟨?_, ?_, by decide, fun a A hA => ?_⟩, ⟨?_, ?_, by decide, fun a A hA => ?_⟩⟩, fun a ha => absurd ha (by simp), fun a ha => absurd ha (by simp)⟩
      · show (u'.2.1 265 0).toInt = _
        omega
      · exact u0
      · rw [List.getElem?_nil] at hA
        cases hA
      · show (u'.2.1 265 1).toInt = _
        omega
      · exact u1
      · rw [List.getElem?_nil] at hA
        cases hA
    have envn : ∀ c, envS (u'.2.1 265 0).toInt.toNat [] (u'.2.1 265 1).toInt.toNat [] c = none := fun c => by
      by_cases hc : c < 1000
      · exact envS_lt hc
      · rw [envS_2 (by omega) (grp_none (Or.inr (by show 0 ≤ _; omega)))]
        exact grp_none (Or.inr (by show 0 ≤ _; omega))
    have u29 : (u'.1 29).toInt = (b : Int) := by rw [uJ.1 29 (by decide)]; exact h29
    rw [show (u'.1 29).toInt.toNat = b by omega]
    intro _
    have u111 : (u'.1 111).toInt = 1 := by
      rw [uk 111 (by decide)]
      exact t111
    have IR : RIl ar nT wr hw Hk fx (fun x => DrM ar Cm cd fx (fun c => kd c = 1) (mvR ar kd cf fs Fk tm tn hw hd) x ∧ ¬ x.1 = 2) (BdM ar Cm cd fx (fun c => kd c = 1) (mvR ar kd cf fs Fk tm tn hw hd)) [] u' := ⟨⟨by rw [uk 112 (by decide)]; exact t112, Nat.zero_le _⟩, ⟨by rw [uk 118 (by decide), t118]; decide, by rw [uk 118 (by decide), t118]; decide⟩, fun i x hx => (by
      rw [List.getElem?_nil] at hx
      cases hx), ⟨List.nodup_nil, fun x hx => by cases hx⟩, fun z => absurd z (by rw [u111]; decide)⟩
    have V0 : EVn ar u' 0 100000 1000 2000 ([], []) := ⟨(u'.2.1 265 0).toInt, (u'.2.1 265 1).toInt, ⟨⟨rfl, u0, fun i Y hi _ => absurd hi (Nat.not_lt_zero _)⟩, rfl, u1, fun i Y hi _ => absurd hi (Nat.not_lt_zero _)⟩, Or.inl rfl, fun i hi => absurd hi (Nat.not_lt_zero _), fun i hi => absurd hi (Nat.not_lt_zero _)⟩
    have nMn : nNd ar 1000 2000 Z wr hw Hk u' fu (u'.2.1 259 b).toInt C0 := by
      rw [IN_r uJ (q := 259) (by decide)]
      exact nNd_q (fun q hq => IN_r uJ (by omega)) (fun i hi => IN_t uJ (by omega)) fu _ C0 hMn
    have ha := hG.2.2.2.2.2.2.1
    have h24 := hG.2.2.2.2.2.2.2
    have hH : ∀ g g', g < Hk → g' < Hk → (wr g = wr g' ↔ hw g = hw g') := fun g g' h1 h2 => by
      rw [← hwr g h1, ← hwr g' h2]
      exact (hG.2.2.2.2.1 g h1).2.2.2 g' h2
    have hfi : ∀ c g g', g < Hk → g' < Hk → 0 ≤ fx c (hw g) → fx c (hw g) = fx c (hw g') → hw g = hw g' := fun c g g' _ _ h0 he' => by
      rw [hfxe] at h0
      rw [hfxe, hfxe] at he'
      rcases lFw_b (cf := cf) (wf := fun f => hw (fs f)) (c := c) (x := hw g) Fk with q | ⟨f1, -, q1, -, q2⟩
      · omega
      · rcases lFw_b (cf := cf) (wf := fun f => hw (fs f)) (c := c) (x := hw g') Fk with q' | ⟨f2, -, q1', -, q2'⟩
        · omega
        · have : f1 = f2 := by omega
          rw [← q2, ← q2', this]
    have m0 : ∀ I ∈ C0, I ∈ Cm := fun I hI' => by
      rw [hCm]
      exact List.mem_append_left _ hI'
    have ok0 : okC ar nT ((([], []) : Env).1.length : Int) ((([], []) : Env).2.length : Int) (fun x => DrM ar Cm cd fx (fun c => kd c = 1) (mvR ar kd cf fs Fk tm tn hw hd) x ∧ ¬ x.1 = 2) (BdM ar Cm cd fx (fun c => kd c = 1) (mvR ar kd cf fs Fk tm tn hw hd)) (eta (([], []) : Env).1 (([], []) : Env).2) C0 := okC_s m0 ⟨hgd, fun x hx => ⟨DrM_c.1 x hx, hs_k hx⟩, fun hx => Or.inl hx⟩
    have E0 : enK ar nT (([], []) : Env) := ⟨⟨Nat.zero_le _, Nat.zero_le _⟩, fun A hA => (by cases hA), fun A hA => (by cases hA)⟩
    have t70' : (t.1 70).toInt = ((0 : Nat) : Int) := t70
    refine Par.imp (Par_and (AEn_all (β0 := 1000) (β1 := 2000) hZ ha h24 E0 hH hfi fu d u' _ _ 0 100000 [] C0 nMn V0 (by rw [uk 64 (by decide)]; exact t64) (Int.le_refl _) IR ok0 t70') (Tot_Par (AEH_all (own := own) (b := b) (n := n) (N := N) (T := T) (F := F) (H := H) (S0 := S0) (G := G) (S := S) (O := O) 11 u' _ _ none l hh e 0 _ _ 0 20000 100000 1 [] [] A uI uV (by omega) (by omega) ⟨fun c _ => envn c, fun c _ => envn c, fun c hc => absurd hc id⟩ (fun c A hA => by rw [envn c] at hA; cases hA) (fun f hf => by cases hf) k4 (by omega) (by omega) hO k1 t70))) ?_
    rintro v w ⟨⟨rfl, Fw, w64', ws, Iw, hw'⟩, -, wJ, w64, R1, M1, wI, g1, g2⟩
    refine ⟨rfl, ?_⟩
    rw [List.nil_append] at Iw hw'
    refine in54p (its := ws) (a1 := t.1 70) hW ⟨⟨R1, JF_tr uJ wJ (by decide) (Nat.le_refl _) (Nat.le_refl _) (Nat.le_refl _) (by omega), M1, wI, by rw [wJ.1 70 (by decide)]; exact u70⟩, RIl_E Iw (fun x hx => hx.1), ?_, fun hf => ⟨?_, fun A f Ts hm => ?_⟩⟩ (fun its ls s' q1 q2 q3 q4 q5 => ⟨_, rfl, Or.inr (Or.inr ⟨h90, h110, q2, q3, rfl, its, ls, q1, q4, q5⟩)⟩)
    · rw [Fw.1 110 (by decide) (by decide) (by decide) (by decide) (by decide) (by decide), uk 110 (by decide)]
      exact t110
    · rw [hCm]
      exact dn_app (hw' hf) (dn_1 (show ¬ (0 : Int) = 2 by decide) (show ¬ (0 : Int) = 6 by decide) (show ¬ (0 : Int) = 5 by decide))
    · exact absurd rfl (Iw.2.2.2.1.2 _ hm).2
end ZVXA
