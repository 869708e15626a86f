/-! ===== the class: Stock with what its Rows hold: make, instances: a loaded program stays ===== -/
/-- what Stock may write, what is put for PARAMS with it -/
def JFz (P : Nat) (s s' : zS) : Prop := (∀ r, ¬ r = P + 18 → ¬ r = 76 → ¬ r = 78 → ¬ r = 80 → ¬ r = 198 → ¬ r = 200 → ¬ r = 202 → ¬ r = 204 → s'.2 r = s.2 r) ∧ WFz P s s' ∧ ∀ c q, ¬ (c = 197 ∧ (q = 7 ∨ q = 10)) → ¬ (c = 198 ∧ q = 2) → ¬ (c = 200 ∧ q = 2) → ¬ (c = 202 ∧ q = 2) → s'.1 c q = s.1 c q
/-- what instances may write -/
def MKz (P : Nat) (s s' : zS) : Prop := (∀ r, ¬ r = P + 18 → ¬ r = 76 → ¬ r = 78 → ¬ r = 80 → ¬ r = 198 → ¬ r = 200 → ¬ r = 202 → ¬ r = 204 → s'.2 r = s.2 r) ∧ (∀ j : Nat, ((j : Int) < 18 ∨ (138 ≤ (j : Int) ∧ (j : Int) < 9618) ∨ 18738 ≤ (j : Int)) → s'.2 (P + 18) j = s.2 (P + 18) j) ∧ ∀ c q, ¬ c = 75 → ¬ c = 197 → ¬ (c = 198 ∧ q = 2) → ¬ (c = 200 ∧ q = 2) → ¬ (c = 202 ∧ q = 2) → s'.1 c q = s.1 c q
/-- a func's code; Z0: what lies at 0 -/
def cdZ (K L W ar kd : Int → Int) (TN Ls : List Int) (Z0 : List Ins) (f : Int) : List Ins := if 0 ≤ f then (match (fnQi K 0 Ls)[f.toNat]? with
  | some p => fnC K L W ar kd TN Ls p
  | none => []) else Z0
/-- code that can be gone through -/
def GDc (ar : Int → Int) (nT nX nY : Int) (P : Nat) (k z : Int) (s : zS) (pc : Int) (C : List Ins) : Prop := ∃ C0 : List Ins, (C = C0 ++ [lvI] ∧ noL C0) ∧ LYz P k z s pc C ∧ (cdK ar nT nX nY C ∧ ckC ar nT nX nY C) ∧ 6 * (pc + (C.length : Int)) ≤ (s.1 (P + 34) 2).toInt
/-- all that is there -/
def LsM (ts : List (List Int)) (cs ms : List Cal) (x : Mit) : Prop := x ∈ ts.map it0 ++ cs.map itc ++ ms.map itm
/-- whole: what Stock left -/
def MKo (Dr : Mit → Prop) (Bd : Prop) (cl : (Mit → Prop) → Prop) (s : zS) : Prop := ∃ (ts : List (List Int)) (cs ms : List Cal), ((s.1 198 2).toInt = (ts.length : Int) ∧ (s.1 200 2).toInt = 10 * (cs.length : Int) ∧ (s.1 202 2).toInt = 9 * (ms.length : Int)) ∧ ((s.1 197 9).toInt = 0 ∨ (s.1 197 9).toInt = 1) ∧ MkO Dr Bd cl ((s.1 197 9).toInt = 1) (ts.map it0) (cs.map itc) (ms.map itm)
section ZVM0
variable {ts : List (List Int)} {cs ms : List Cal} {x : Mit} {A : List Int} {X : Cal}
theorem nd_map {α β : Type} {f : α → β} (hf : ∀ a b, f a = f b → a = b) : ∀ {l : List α}, l.Nodup → (l.map f).Nodup
  | [], _ => List.nodup_nil
  | a :: l, h => by
    have h2 := List.nodup_cons.mp h
    rw [List.map_cons]
    refine List.nodup_cons.mpr ⟨fun q => ?_, nd_map hf h2.2⟩
    obtain ⟨b, hb, e⟩ := List.mem_map.mp q
    rw [hf b a e] at hb
    exact h2.1 hb
theorem it0_i (A B : List Int) (h : it0 A = it0 B) : A = B := congrArg (fun x : Mit => x.2.1) h
theorem itc_i (X Y : Cal) (h : itc X = itc Y) : X = Y := congrArg (fun x : Mit => x.2) h
theorem itm_i (X Y : Cal) (h : itm X = itm Y) : X = Y := congrArg (fun x : Mit => x.2) h
theorem LsM_0 : LsM ts cs ms (it0 A) ↔ A ∈ ts := by
  constructor
  · intro h
    rcases List.mem_append.mp h with q | q
    · rcases List.mem_append.mp q with q | q
      · obtain ⟨B, hB, e⟩ := List.mem_map.mp q
        rw [← it0_i B A e]
        exact hB
      · obtain ⟨Y, -, e⟩ := List.mem_map.mp q
        exact absurd (show (1 : Nat) = 0 from congrArg (fun x : Mit => x.1) e) (by decide)
    · obtain ⟨Y, -, e⟩ := List.mem_map.mp q
      exact absurd (show (2 : Nat) = 0 from congrArg (fun x : Mit => x.1) e) (by decide)
  · exact fun h => List.mem_append_left _ (List.mem_append_left _ (List.mem_map.mpr ⟨A, h, rfl⟩))
theorem LsM_1 : LsM ts cs ms (itc X) ↔ X ∈ cs := by
  constructor
  · intro h
    rcases List.mem_append.mp h with q | q
    · rcases List.mem_append.mp q with q | q
      · obtain ⟨B, -, e⟩ := List.mem_map.mp q
        exact absurd (show (0 : Nat) = 1 from congrArg (fun x : Mit => x.1) e) (by decide)
      · obtain ⟨Y, hY, e⟩ := List.mem_map.mp q
        rw [← itc_i Y X e]
        exact hY
    · obtain ⟨Y, -, e⟩ := List.mem_map.mp q
      exact absurd (show (2 : Nat) = 1 from congrArg (fun x : Mit => x.1) e) (by decide)
  · exact fun h => List.mem_append_left _ (List.mem_append_right _ (List.mem_map.mpr ⟨X, h, rfl⟩))
theorem LsM_2 : LsM ts cs ms (itm X) ↔ X ∈ ms := by
  constructor
  · intro h
    rcases List.mem_append.mp h with q | q
    · rcases List.mem_append.mp q with q | q
      · obtain ⟨B, -, e⟩ := List.mem_map.mp q
        exact absurd (show (0 : Nat) = 2 from congrArg (fun x : Mit => x.1) e) (by decide)
      · obtain ⟨Y, -, e⟩ := List.mem_map.mp q
        exact absurd (show (1 : Nat) = 2 from congrArg (fun x : Mit => x.1) e) (by decide)
    · obtain ⟨Y, hY, e⟩ := List.mem_map.mp q
      rw [← itm_i Y X e]
      exact hY
  · exact fun h => List.mem_append_right _ (List.mem_map.mpr ⟨X, h, rfl⟩)
theorem InL_m (h : InL ts cs ms x) : LsM ts cs ms x := by
  rcases h with ⟨A, q, rfl⟩ | ⟨X, q, rfl⟩ | ⟨X, q, rfl⟩
  · exact LsM_0.mpr q
  · exact LsM_1.mpr q
  · exact LsM_2.mpr q
/-- the end of making, as it is told -/
theorem MkO_of {Dr : Mit → Prop} {Bd : Prop} {cl : (Mit → Prop) → Prop} {ok : Prop} (hn : ts.Nodup ∧ cs.Nodup ∧ ms.Nodup) (hD : DrL Dr ts cs ms) (h1 : ok → cl (LsM ts cs ms) ∧ ¬ Bd ∧ ts.length + cs.length + ms.length ≤ 150) (h2 : ¬ ok → Bd ∨ 151 ≤ ts.length + cs.length + ms.length) : MkO Dr Bd cl ok (ts.map it0) (cs.map itc) (ms.map itm) := by
  refine ⟨⟨⟨nd_map it0_i hn.1, nd_map itc_i hn.2.1, nd_map itm_i hn.2.2⟩, fun x hx => ?_, fun x hx => ?_, fun x hx => ?_⟩, fun x hx => ?_, fun w => ?_, fun w => ?_⟩
  · obtain ⟨A, -, rfl⟩ := List.mem_map.mp hx
    rfl
  · obtain ⟨A, -, rfl⟩ := List.mem_map.mp hx
    rfl
  · obtain ⟨A, -, rfl⟩ := List.mem_map.mp hx
    rfl
  · rcases List.mem_append.mp hx with q | q
    · rcases List.mem_append.mp q with q | q
      · obtain ⟨A, hA, rfl⟩ := List.mem_map.mp q
        exact hD.1 A hA
      · obtain ⟨A, hA, rfl⟩ := List.mem_map.mp q
        exact hD.2.1 A hA
    · obtain ⟨A, hA, rfl⟩ := List.mem_map.mp q
      exact hD.2.2 A hA
  · rw [List.length_map, List.length_map, List.length_map]
    exact h1 w
  · rw [List.length_map, List.length_map, List.length_map]
    exact h2 w
end ZVM0
section ZVM
variable {K L W ar kd : Int → Int} {TN Ls : List Int} {n k0 mB k z lo hi g : Int} {P d : Nat} {s s' u w : zS} {gg : Int × Int} {a1 : Int32} {Dr : Mit → Prop} {Bd : Prop} {An : List Int → Cal → List Cal → Prop} {ts : List (List Int)} {cs ms : List Cal} {η : Nat → List Int} {pc nX nY : Int} {C : List Ins}
theorem JFz_i (h : IFz P s s') : JFz P s s' := ⟨fun r a1 _ a3 a4 a5 a6 a7 a8 => h.1 r a1 a3 a4 a5 a6 a7 a8, h.2.1, h.2.2⟩
theorem JFz_rf : JFz P s s := JFz_i IFz_rf
theorem JFz_tr (h : JFz P s u) (g : JFz P u w) : JFz P s w := ⟨fun r a1 a2 a3 a4 a5 a6 a7 a8 => (g.1 r a1 a2 a3 a4 a5 a6 a7 a8).trans (h.1 r a1 a2 a3 a4 a5 a6 a7 a8), WFz_tr h.2.1 g.2.1, fun c q a1 a2 a3 a4 => (g.2.2 c q a1 a2 a3 a4).trans (h.2.2 c q a1 a2 a3 a4)⟩
theorem JFz_6 (hP : P = 3 ∨ P = 39) (h1 : u.1 = s.1) (h2 : ∀ r, ¬ r = 76 → u.2 r = s.2 r) : JFz P s u := ⟨fun r _ h _ _ _ _ _ _ => h2 r h, ⟨fun j _ => by rw [h2 _ (by omega)], by rw [h1]; exact Int.le_refl _⟩, fun c q _ _ _ _ => by rw [h1]⟩
theorem IOd_6 (hP : P = 3 ∨ P = 39) (h1 : u.1 = s.1) (h2 : ∀ r, ¬ r = 76 → u.2 r = s.2 r) (g : IOd Dr Bd An ar P s ts cs ms) : IOd Dr Bd An ar P u ts cs ms := by
  obtain ⟨⟨g1, nx, g2, g3⟩, g4, g5⟩ := g
  exact ⟨⟨by rw [h1]; exact g1, nx, by rw [h1]; exact g2, IRz_f (fun j _ _ => by rw [h2 _ (by omega)]) (by rw [h1]) (by rw [h1]; exact ⟨rfl, rfl, rfl, rfl⟩) ⟨h2 _ (by decide), h2 _ (by decide), h2 _ (by decide)⟩ g3⟩, by rw [h1]; exact g4, by rw [h1]; exact fun z => DNc_s (h2 200 (by decide)) (g5 z)⟩
theorem PGz_j (hP : P = 3 ∨ P = 39) (h : JFz P s s') (g : PGz K L W ar kd TN Ls n k0 mB P k z gg s) : PGz K L W ar kd TN Ls n k0 mB P k z gg s' := by
  obtain ⟨u, hu⟩ : ∃ u : zS, u = (s'.1, fun r => if r = 76 then s.2 76 else s'.2 r) := ⟨_, rfl⟩
  have u1 : u.1 = s'.1 := by rw [hu]
  have u2 : ∀ r, ¬ r = 76 → u.2 r = s'.2 r := fun r hr => by
    rw [hu]
    exact if_neg hr
  have F : IFz P s u := by
    refine ⟨fun r a1 a3 a4 a5 a6 a7 a8 => ?_, ⟨fun j hj => by rw [u2 _ (by omega)]; exact h.2.1.1 j hj, by rw [u1]; exact h.2.1.2⟩, fun c q a1 a2 a3 a4 => by rw [u1]; exact h.2.2 c q a1 a2 a3 a4⟩
    by_cases e : r = 76
    · rw [hu, e]
      show (if (76 : Nat) = 76 then s.2 76 else s'.2 76) = s.2 76
      exact if_pos rfl
    · rw [u2 r e]
      exact h.1 r a1 e a3 a4 a5 a6 a7 a8
  have Gu := PGz_i hP F g
  clear hu F g h
  obtain ⟨g1, g2, g3, g4, g5, g6⟩ := Gu
  have hr : ∀ r : Nat, r < 36 → s'.2 (P + r) = u.2 (P + r) := fun r r1 => (u2 _ (by omega)).symm
  have hly : ∀ {pc : Int} {C : List Ins}, LYz P k z u pc C → LYz P k z s' pc C := fun g => LYz_k (fun j _ _ => by rw [hr 18 (by decide)]) (Int.le_refl _) (fun j _ => by rw [hr 34 (by decide)]) (Int.le_refl _) g
  refine ⟨CSz_g hP (fun r hr' => hr r (by omega)) (fun j _ => by rw [hr 26 (by decide)]) (fun j hj => by rw [hr 18 (by decide)]) (fun j _ => by rw [hr 20 (by decide)]) (fun b hb => by rw [u1]) g1, g2, fun g p hg => ?_, ?_, ?_, by rw [← u1]; exact g6⟩
  · have e : fnc s' P (g : Int) 8 = fnc u P (g : Int) 8 := by
      unfold fnc
      rw [hr 26 (by decide)]
    rw [e]
    exact hly (g3 g p hg)
  · rw [← u1]
    exact hly g4
  · rw [← u1]
    exact ⟨kpz_k (fun j _ _ => by rw [hr 18 (by decide)]) (Int.le_refl _) g5.1, g5.2.1, C0z_m (fun C g => hly g) g5.2.2⟩
/-- code stays -/
theorem GDc_j (hP : P = 3 ∨ P = 39) (h : JFz P s s') (g : GDc ar (TN.length : Int) nX nY P k z s pc C) : GDc ar (TN.length : Int) nX nY P k z s' pc C := by
  obtain ⟨C0, g1, g2, g3, g4⟩ := g
  refine ⟨C0, g1, LYz_k (fun j h1 _ => h.2.1.1 j (Or.inr (Or.inr h1))) (Int.le_refl _) (fun j _ => by rw [h.1 _ (by omega) (by omega) (by omega) (by omega) (by omega) (by omega) (by omega) (by omega)]) (Int.le_refl _) g2, g3, ?_⟩
  rw [h.2.2 (P + 34) 2 (fun q => by omega) (fun q => by omega) (fun q => by omega) (fun q => by omega)]
  exact g4
/-- going through code -/
theorem zi_gd (hP : P = 3 ∨ P = 39) (h : PRm K L W ar kd n lo hi TN Ls) (G : PGz K L W ar kd TN Ls n k0 mB P k z gg s) (hN : SNz s) (hC : GDc ar (TN.length : Int) nX nY P k z s pc C) (hE : (nX = 0 ∧ nY = 0) ∨ EQe ar P η s) (hI : IOd Dr Bd An ar P s ts cs ms) (h0 : (s.1 197 10).toInt = 0) (h1 : a1.toInt = pc) (hDr : ∀ x, hsC ar η C x → Dr x) (hBd : grC η C → Bd) : Zt (d + 45) (wd2 P 105) 105 [.ref 197, .int a1] s (fun v s' => v = none ∧ IFz P s s' ∧ GTo Dr Bd An ar P η ts cs ms C s') := by
  obtain ⟨C0, ⟨g1, g2⟩, g3, ⟨g4, g5⟩, g6⟩ := hC
  exact zi_105 hP h G hN g1 g3 g4 g5 hE hI h0 h1 g6 g2 hDr hBd
/-- a func's code, that at 0 -/
theorem cdZ_gd {Z0 : List Ins} {g : Int} (h : PRm K L W ar kd n lo hi TN Ls) (hPk : PCk K L W ar kd TN Ls mB) (hPc : PCc K L W ar kd TN Ls mB) (G : PGz K L W ar kd TN Ls n k0 mB P k z gg s) (hSz : 6 * z ≤ (s.1 (P + 34) 2).toInt) (hZ : ∃ nX nY, GDc ar (TN.length : Int) nX nY P k z s 0 Z0) (hg : -1 ≤ g ∧ 10 * g < (s.1 (P + 26) 2).toInt) : ∃ nX nY, GDc ar (TN.length : Int) nX nY P k z s (fnc s P g 8) (cdZ K L W ar kd TN Ls Z0 g) := by
  unfold cdZ
  rcases Int.lt_or_le g 0 with q | q
  · rw [if_neg (by omega)]
    have e : fnc s P g 8 = 0 := by
      unfold fnc
      exact KI_neg (by omega)
    rw [e]
    exact hZ
  · rw [if_pos q]
    have hF : (s.1 (P + 26) 2).toInt = 10 * (kFn K Ls : Int) := G.1.2.2.2.2.2.2.1.2.1
    obtain ⟨gn, rfl⟩ : ∃ gn : Nat, g = (gn : Int) := ⟨g.toNat, by omega⟩
    have hl : gn < (fnQi K 0 Ls).length := by
      rw [fnQi_len]
      omega
    obtain ⟨p, hp⟩ : ∃ p, (fnQi K 0 Ls)[gn]? = some p := ⟨_, List.getElem?_eq_getElem hl⟩
    rw [Int.toNat_natCast, hp]
    have hL := G.2.2.1 gn p hp
    have hL2 := hL.2.1
    have h3 : 6 * (fnc s P (gn : Int) 8 + ((fnC K L W ar kd TN Ls p).length : Int)) ≤ (s.1 (P + 34) 2).toInt := by omega
    show ∃ nX nY, GDc ar (TN.length : Int) nX nY P k z s (fnc s P (gn : Int) 8) (fnC K L W ar kd TN Ls p)
    exact ⟨_, _, _, ⟨rfl, noL_E _ _⟩, hL, ⟨hPk.1 gn p hp, hPc.1 gn p hp⟩, h3⟩
/-- all was held against all -/
def ALc (An : List Int → Cal → List Cal → Prop) (ts : List (List Int)) (cs ms : List Cal) : Prop := ∀ X ∈ cs, ∀ A ∈ ts, An A X ms
/-- main's code and the first M METHODS' were gone through -/
def BMc (ar : Int → Int) (Cm : List Ins) (cd : Int → List Ins) (ts : List (List Int)) (cs ms : List Cal) (M : Nat) : Prop := (¬ grC (eta [] []) Cm ∧ ∀ x, hsC ar (eta [] []) Cm x → InL ts cs ms x) ∧ ∀ (m : Nat) (X : Cal), m < M → ms[m]? = some X → ¬ grC (eta (argT ar X.1) X.2.2) (cd X.2.1) ∧ ∀ x, hsC ar (eta (argT ar X.1) X.2.2) (cd X.2.1) x → InL ts cs ms x
theorem BMc_a {Cm : List Ins} {cd : Int → List Ins} {M : Nat} {ws : List (List Int)} {us vs : List Cal} (hM : M ≤ ms.length) (g : BMc ar Cm cd ts cs ms M) : BMc ar Cm cd (ts ++ ws) (cs ++ us) (ms ++ vs) M := by
  refine ⟨⟨g.1.1, fun x hx => InL_app (g.1.2 x hx)⟩, fun m X hm hX => ?_⟩
  rw [List.getElem?_append_left (by omega)] at hX
  obtain ⟨g1, g2⟩ := g.2 m X hm hX
  exact ⟨g1, fun x hx => InL_app (g2 x hx)⟩
set_option maxHeartbeats 2000000 in
/-- make -/
theorem zi_97 {Z0 : List Ins} (hP : P = 3 ∨ P = 39) (h : PRm K L W ar kd n lo hi TN Ls) (hPk : PCk K L W ar kd TN Ls mB) (hPc : PCc K L W ar kd TN Ls mB) (G : PGz K L W ar kd TN Ls n k0 mB P k z gg s) (hN : SNz s) (h18 : (s.1 75 3).toInt = 18) (hSz : 6 * z ≤ (s.1 (P + 34) 2).toInt) (hZ : ∃ nX nY, GDc ar (TN.length : Int) nX nY P k z s 0 Z0) : Zu (d + 63) [(197, 5), (197, 6)] [(75, 0, P), (75, 1, P + 18), (75, 2, P + 22)] [(197, 6, P + 18), (197, 5, P), (75, 0, P), (75, 1, P + 18), (75, 2, P + 22)] 97 [.ref 197, .ref P] s (fun v s' => v = none ∧ MKz P s s' ∧ PGz K L W ar kd TN Ls n k0 mB P k z gg s' ∧ (s'.1 197 8).toInt = 1 ∧ MKo (DrM ar (mnC K L W ar kd TN Ls mB) (cdZ K L W ar kd TN Ls Z0) (fxD K L W TN Ls) (fun c => kd c = 1) (fun A t => mvD K L W ar kd TN Ls A A t)) (BdM ar (mnC K L W ar kd TN Ls mB) (cdZ K L W ar kd TN Ls Z0) (fxD K L W TN Ls) (fun c => kd c = 1) (fun A t => mvD K L W ar kd TN Ls A A t)) (clM ar (mnC K L W ar kd TN Ls mB) (cdZ K L W ar kd TN Ls Z0) (fxD K L W TN Ls) (fun c => kd c = 1) (fun A t => mvD K L W ar kd TN Ls A A t)) s') := by
  obtain ⟨Dr, hDr⟩ : ∃ Dr, Dr = DrM ar (mnC K L W ar kd TN Ls mB) (cdZ K L W ar kd TN Ls Z0) (fxD K L W TN Ls) (fun c => kd c = 1) (fun A t => mvD K L W ar kd TN Ls A A t) := ⟨_, rfl⟩
  obtain ⟨Bd, hBd⟩ : ∃ Bd, Bd = BdM ar (mnC K L W ar kd TN Ls mB) (cdZ K L W ar kd TN Ls Z0) (fxD K L W TN Ls) (fun c => kd c = 1) (fun A t => mvD K L W ar kd TN Ls A A t) := ⟨_, rfl⟩
  obtain ⟨An, hAn⟩ : ∃ An, An = AnD kd (fun A t => mvD K L W ar kd TN Ls A A t) (fxD K L W TN Ls) := ⟨_, rfl⟩
  have hcl : clM ar (mnC K L W ar kd TN Ls mB) (cdZ K L W ar kd TN Ls Z0) (fxD K L W TN Ls) (fun c => kd c = 1) (fun A t => mvD K L W ar kd TN Ls A A t) Dr := by
    rw [hDr]
    exact DrM_c
  obtain ⟨Dm, Dc, Db⟩ := hcl
  have B1 : grC (eta [] []) (mnC K L W ar kd TN Ls mB) → Bd := fun q => by
    rw [hBd]
    exact Or.inl q
  have B2 : ∀ X : Cal, Dr (itm X) → grC (eta (argT ar X.1) X.2.2) (cdZ K L W ar kd TN Ls Z0 X.2.1) → Bd := fun X q1 q2 => by
    rw [hBd]
    rw [hDr] at q1
    exact Or.inr (Or.inl ⟨X.1, X.2.1, X.2.2, q1, q2⟩)
  have B3 : ∀ (X : Cal) (A : List Int), Dr (itc X) → Dr (it0 A) → kd (A.headD 0) = 1 → mvD K L W ar kd TN Ls A A X.1 = 9 → Bd := fun X A q1 q2 q3 q4 => by
    rw [hBd]
    rw [hDr] at q1 q2
    exact Or.inr (Or.inr ⟨X.1, X.2.1, X.2.2, A, q1, q2, q3, q4⟩)
  rw [← hDr, ← hBd]
  obtain ⟨ha, h24⟩ := PR_ar h
  have hF60 := h.2.2.1.2
  refine zc_97 (d := d + 54) hP ?_
  unfold v_97_0
  intro s1 hs1 s2 hs2 s3 hs3 s4 hs4 s5 hs5 s6 hs6
  have F6 : ∀ c q, s6.1 c q = if c = 197 ∧ q = 10 then 0 else if c = 197 ∧ q = 8 then 1 else if c = 197 ∧ q = 7 then 9618 else if c = 202 ∧ q = 2 then 0 else if c = 200 ∧ q = 2 then 0 else if c = 198 ∧ q = 2 then 0 else s.1 c q := fun c q => by rw [hs6, zf_1, hs5, zf_1, hs4, zf_1, hs3, zf_1, hs2, zf_1, hs1, zf_1]
  have r6 : s6.2 = s.2 := by rw [hs6, zf_2, hs5, zf_2, hs4, zf_2, hs3, zf_2, hs2, zf_2, hs1, zf_2]
  clear hs1 hs2 hs3 hs4 hs5 hs6
  have o6 : ∀ c q, ¬ c = 197 → ¬ (c = 198 ∧ q = 2) → ¬ (c = 200 ∧ q = 2) → ¬ (c = 202 ∧ q = 2) → s6.1 c q = s.1 c q := fun c q a1 a2 a3 a4 => by rw [F6, if_neg (fun z => a1 z.1), if_neg (fun z => a1 z.1), if_neg (fun z => a1 z.1), if_neg a4, if_neg a3, if_neg a2]
  have N6 : SNz s6 := SNz_2 r6 hN
  have G6 : PGz K L W ar kd TN Ls n k0 mB P k z gg s6 := PGz_v hP r6 (fun c q _ hc => o6 c q (by omega) (by omega) (by omega) (by omega)) (by rw [o6 0 11 (by decide) (by decide) (by decide) (by decide), o6 0 12 (by decide) (by decide) (by decide) (by decide)]; exact G.2.2.2.2.2) G
  have e7 : (s6.1 197 7).toInt = 9618 := by
    rw [F6, if_neg (by decide), if_neg (by decide), if_pos ⟨rfl, rfl⟩]
    decide
  have e198 : s6.1 198 2 = 0 := by rw [F6, if_neg (by decide), if_neg (by decide), if_neg (by decide), if_neg (by decide), if_neg (by decide), if_pos ⟨rfl, rfl⟩]
  have e200 : s6.1 200 2 = 0 := by rw [F6, if_neg (by decide), if_neg (by decide), if_neg (by decide), if_neg (by decide), if_pos ⟨rfl, rfl⟩]
  have e202 : s6.1 202 2 = 0 := by rw [F6, if_neg (by decide), if_neg (by decide), if_neg (by decide), if_pos ⟨rfl, rfl⟩]
  have e10 : (s6.1 197 10).toInt = 0 := by
    rw [F6, if_pos ⟨rfl, rfl⟩]
    decide
  have e8 : (s6.1 197 8).toInt = 1 := by
    rw [F6, if_neg (by decide), if_pos ⟨rfl, rfl⟩]
    decide
  have I6 : IOd Dr Bd An ar P s6 [] [] [] := by
    refine ⟨⟨by rw [o6 75 3 (by decide) (by decide) (by decide) (by decide)]; exact h18, 9618, ⟨by decide, fun _ => by decide⟩, ⟨e7, by decide, by decide⟩, ⟨by rw [e198]; decide, fun j A hj => by cases hj⟩, ⟨by rw [e200]; decide, fun c X hc => by cases hc⟩, by rw [e202]; decide, fun c X hc => by cases hc⟩, ⟨⟨List.nodup_nil, List.nodup_nil, List.nodup_nil⟩, ⟨fun A hA => (by cases hA), fun A hA => (by cases hA), fun A hA => (by cases hA)⟩, fun _ A hA => (by cases hA), fun w => absurd e10 w⟩, fun _ c X hc => by cases hc⟩
  have hSz6 : 6 * z ≤ (s6.1 (P + 34) 2).toInt := by
    rw [o6 (P + 34) 2 (by omega) (fun q => by omega) (fun q => by omega) (fun q => by omega)]
    exact hSz
  have hZ6 : ∃ nX nY, GDc ar (TN.length : Int) nX nY P k z s6 0 Z0 := by
    obtain ⟨nX, nY, C0, g1, g2, g3, g4⟩ := hZ
    refine ⟨nX, nY, C0, g1, LYz_k (fun j _ _ => by rw [r6]) (Int.le_refl _) (fun j _ => by rw [r6]) (Int.le_refl _) g2, g3, ?_⟩
    rw [o6 (P + 34) 2 (by omega) (fun q => by omega) (fun q => by omega) (fun q => by omega)]
    exact g4
  have mk : ∀ (t1 : Int32) (w s1 : zS), JFz P s6 w → s1 = zf w 197 9 t1 → MKz P s s1 ∧ PGz K L W ar kd TN Ls n k0 mB P k z gg s1 := fun t1 w s1 Jw hs1 => by
    have e1 : s1.2 = w.2 := by rw [hs1, zf_2]
    have f1 : ∀ c q, ¬ c = 197 → s1.1 c q = w.1 c q := fun c q hc => by rw [hs1, zf_1, if_neg (fun z => hc z.1)]
    refine ⟨⟨fun r a1 a2 a3 a4 a5 a6 a7 a8 => by rw [e1, Jw.1 r a1 a2 a3 a4 a5 a6 a7 a8, r6], fun j hj => by rw [e1, Jw.2.1.1 j (by rw [e7]; exact hj), r6], fun c q _ a2 a3 a4 a5 => by rw [f1 c q a2, Jw.2.2 c q (fun z => a2 z.1) a3 a4 a5, o6 c q a2 a3 a4 a5]⟩, ?_⟩
    have Gw := PGz_j hP Jw G6
    exact PGz_v hP e1 (fun c q _ hc => f1 c q (by omega)) (by rw [f1 0 11 (by decide), f1 0 12 (by decide)]; exact Gw.2.2.2.2.2) Gw
  have hL6 := G6.2.2.2.1
  have hL62 := hL6.2.1
  refine Zt.imp (Zt.mo (d := 45) (by omega) ((zi_gd (d := 0) (pc := (s6.1 P 12).toInt) (nX := 0) (nY := 0) (η := eta [] []) (C := mnC K L W ar kd TN Ls mB) hP h G6 N6 ⟨_, ⟨rfl, noL_E _ _⟩, hL6, ⟨hPk.2, hPc.2⟩, by omega⟩ (Or.inl ⟨rfl, rfl⟩) I6 e10 rfl (fun x hx => Dm x hx) B1).sn N6)) ?_
  rintro v7 s8 ⟨⟨rfl, F8, ws8, us8, I8, g8⟩, N8⟩
  refine ⟨rfl, ?_⟩
  refine ⟨fun c2 c3 u => 0 ≤ c3.toInt ∧ c3.toInt ≤ 151 ∧ SNz u ∧ JFz P s6 u ∧ ∃ (ts : List (List Int)) (cs ms : List Cal), IOd Dr Bd An ar P u ts cs ms ∧ ((u.1 197 10).toInt = 0 → BMc ar (mnC K L W ar kd TN Ls mB) (cdZ K L W ar kd TN Ls Z0) ts cs ms ms.length ∧ (-1 ≤ c2.toInt ∧ c2.toInt ≤ (ms.length : Int) ∧ c3.toInt ≤ c2.toInt + 1) ∧ (c2.toInt = (ms.length : Int) → ALc An ts cs ms)), fun _ c3 _ => (151 - c3.toInt).toNat, ⟨by decide, by decide, N8, JFz_i F8, [] ++ ws8, [] ++ us8, [], I8, fun z => ⟨⟨g8 z, fun m X hm hX => by cases hX⟩, by decide, fun w => absurd w (by decide)⟩⟩, ?_⟩
  rintro c2 c3 u ⟨i1, i2, Nu, Ju, ts, cs, ms, Iu, hu⟩
  have out : ∀ (q2 q3 : Int32), ((u.1 197 10).toInt = 0 → ALc An ts cs ms) → v_97_81 (fun j => Zt (d + 54 + 8) (wd2 P j) j) P q2 q3 u (fun v s' => v = none ∧ MKz P s s' ∧ PGz K L W ar kd TN Ls n k0 mB P k z gg s' ∧ (s'.1 197 8).toInt = 1 ∧ MKo Dr Bd (clM ar (mnC K L W ar kd TN Ls mB) (cdZ K L W ar kd TN Ls Z0) (fxD K L W TN Ls) (fun c => kd c = 1) (fun A t => mvD K L W ar kd TN Ls A A t)) s') := fun q2 q3 hall => by
    obtain ⟨⟨-, nx, hc, hR⟩, ⟨hn, hD, -, hfl⟩, -⟩ := id Iu
    have fin : ∀ (t1 : Int32) (s1 : zS), s1 = zf u 197 9 t1 → ((t1.toInt = 1 ∧ (u.1 197 10).toInt = 0) ∨ (t1.toInt = 0 ∧ ¬ (u.1 197 10).toInt = 0)) → (s1.1 197 8).toInt = 1 ∧ MKo Dr Bd (clM ar (mnC K L W ar kd TN Ls mB) (cdZ K L W ar kd TN Ls Z0) (fxD K L W TN Ls) (fun c => kd c = 1) (fun A t => mvD K L W ar kd TN Ls A A t)) s1 := fun t1 s1 hs1 ht1 => by
      have f1 : ∀ c q, ¬ (c = 197 ∧ q = 9) → s1.1 c q = u.1 c q := fun c q hc => by rw [hs1, zf_1, if_neg hc]
      have f9 : s1.1 197 9 = t1 := by rw [hs1, zf_1, if_pos ⟨rfl, rfl⟩]
      refine ⟨by rw [f1 197 8 (by decide), Ju.2.2 197 8 (by decide) (by decide) (by decide) (by decide)]; exact e8, ts, cs, ms, ⟨by rw [f1 198 2 (by decide)]; exact hR.2.1.1, by rw [f1 200 2 (by decide)]; exact hR.2.2.1.1, by rw [f1 202 2 (by decide)]; exact hR.2.2.2.1⟩, by rw [f9]; omega, ?_⟩
      rw [f9]
      refine MkO_of hn hD (fun ok => ?_) (fun nok => ?_)
      · have z : (u.1 197 10).toInt = 0 := by
          rcases ht1 with q | q
          · exact q.2
          · omega
        obtain ⟨hb, -, -⟩ := hu z
        have hA := hall z
        have hAn' : ∀ X ∈ cs, ∀ A ∈ ts, kd (A.headD 0) = 1 → ¬ mvD K L W ar kd TN Ls A A X.1 = 9 ∧ (mvD K L W ar kd TN Ls A A X.1 = 0 → (A, fxD K L W TN Ls (A.headD 0) X.2.1, X.2.2) ∈ ms) := fun X hX A hA' => by
          have := hA X hX A hA'
          rw [hAn] at this
          exact this
        have hbm : ∀ X ∈ ms, ¬ grC (eta (argT ar X.1) X.2.2) (cdZ K L W ar kd TN Ls Z0 X.2.1) ∧ ∀ x, hsC ar (eta (argT ar X.1) X.2.2) (cdZ K L W ar kd TN Ls Z0 X.2.1) x → InL ts cs ms x := fun X hX => by
          obtain ⟨m, hm⟩ := List.getElem?_of_mem hX
          exact hb.2 m X (List.getElem?_eq_some_iff.mp hm).1 hm
        have hclo : clM ar (mnC K L W ar kd TN Ls mB) (cdZ K L W ar kd TN Ls Z0) (fxD K L W TN Ls) (fun c => kd c = 1) (fun A t => mvD K L W ar kd TN Ls A A t) (LsM ts cs ms) := by
          refine ⟨fun x hx => InL_m (hb.1.2 x hx), fun t w Ts A q1 q0 qs qm => ?_, fun A f Ts x q2 hx => ?_⟩
          · have q1' := LsM_1 (X := (t, w, Ts)).mp q1
            have q0' := LsM_0.mp q0
            exact LsM_2 (X := (A, fxD K L W TN Ls (A.headD 0) w, Ts)).mpr ((hAn' _ q1' A q0' qs).2 qm)
          · have q2' := LsM_2 (X := (A, f, Ts)).mp q2
            exact InL_m ((hbm _ q2').2 x hx)
        refine ⟨hclo, ?_, hc.2 z⟩
        rw [hBd]
        rintro (q | ⟨A, f, Ts, q1, q2⟩ | ⟨t, w, Ts, A, q1, q0, qs, qm⟩)
        · exact hb.1.1 q
        · exact (hbm (A, f, Ts) (LsM_2.mp (q1 _ hclo))).1 q2
        · exact (hAn' (t, w, Ts) (LsM_1.mp (q1 _ hclo)) A (LsM_0.mp (q0 _ hclo)) qs).1 qm
      · refine hfl ?_
        rcases ht1 with q | q
        · exact absurd q.1 nok
        · exact q.2
    unfold v_97_81 v_97_88
    refine ⟨fun zn => ⟨by decide, fun s1 hs1 => ?_⟩, fun zz => ⟨by decide, fun s1 hs1 => ?_⟩⟩
    · obtain ⟨k1, k2⟩ := mk _ u s1 Ju hs1
      exact ⟨rfl, k1, k2, fin _ s1 hs1 (Or.inr ⟨by decide, zn⟩)⟩
    · obtain ⟨k1, k2⟩ := mk _ u s1 Ju hs1
      exact ⟨rfl, k1, k2, fin _ s1 hs1 (Or.inl ⟨by decide, zz⟩)⟩
  obtain ⟨⟨hTu, nxu, hcu, hRu⟩, -, -⟩ := id Iu
  have s202 := hRu.2.2.2.1
  unfold v_97_35
  refine ⟨fun y => out _ _ (fun z => (hu z).2.2 (by have := (hu z).2.1; have := hcu.2 z; omega)), fun y => ?_⟩
  refine Zt.imp (Zt.mo (d := 9) (by omega) (zw_96 (d := 0) hP)) ?_
  rintro v1 s2' ⟨hs, x3, rfl, q3⟩
  subst hs
  have e3 := q3 (by omega)
  refine ⟨x3, rfl, fun y3 => out _ _ (fun z => (hu z).2.2 (by have := (hu z).2.1; omega)), fun y3 => ⟨fun zn => out _ _ (fun z => absurd z zn), fun zz0 => ?_⟩⟩
  obtain ⟨hb0, hdn0, -⟩ := hu zz0
  refine Zt.imp (Zt.mo (d := 9) (by omega) (zw_96 (d := 0) hP)) ?_
  rintro v4 s5' ⟨hs, x6, rfl, q6⟩
  subst hs
  have e6 := q6 (by omega)
  have e6' : x6.toInt = (ms.length : Int) := by omega
  refine ⟨x6, rfl, ?_⟩
  -- CALLS
  refine ⟨fun b2 b3 b4 w => b2 = x6 ∧ b3 = c3 ∧ SNz w ∧ JFz P s6 w ∧ ∃ c : Nat, b4.toInt = (c : Int) ∧ c ≤ cs.length ∧ ∃ vs : List Cal, IOd Dr Bd An ar P w ts cs (ms ++ vs) ∧ ((w.1 197 10).toInt = 0 → ∀ c' : Nat, c' < c → KI (w.2 200) (10 * (c' : Int) + 9) = (ts.length : Int)), fun _ _ b4 _ => (151 - b4.toInt).toNat, ⟨rfl, rfl, Nu, Ju, 0, by decide, Nat.zero_le _, [], by rw [List.append_nil]; exact Iu, fun _ c' hc' => absurd hc' (Nat.not_lt_zero _)⟩, ?_⟩
  rintro b2 b3 b4 w ⟨e2, e3', Nw, Jw, c, hbc, hcl', vs, Iw, hw⟩
  subst e2 e3'
  obtain ⟨⟨hTw, nxw, hcw, hRw⟩, hHw, hDNw⟩ := id Iw
  have s200 := hRw.2.2.1.1
  unfold v_97_50
  refine Zt.imp (Zt.mo (d := 9) (by omega) (zw_95 (d := 0) hP)) ?_
  rintro v1 s2' ⟨hs, x3', rfl, q3'⟩
  subst hs
  have e3' := q3' (by omega)
  refine ⟨x3', rfl, fun y4 => ?_, fun y4 x4 hx4 => ?_⟩
  rotate_left
  · have ex4 := hx4 (by omega)
    have hcc : c < cs.length := by omega
    obtain ⟨X, hX⟩ : ∃ X, cs[c]? = some X := ⟨_, List.getElem?_eq_getElem hcc⟩
    by_cases zf : (s2'.1 197 10).toInt = 0
    · rw [hAn] at Iw
      refine Zt.imp (Zt.mo (d := 36) (by omega) ((zi_99 (d := 0) (c := c) (X := X) hP h (PGz_j hP Jw G6) Nw Iw zf (by omega) hX (fun A hA hk hm => Dc X.1 X.2.1 X.2.2 A (hHw.2.1.2.1 X (List.mem_of_getElem? hX)) (hHw.2.1.1 A hA) hk hm) (fun A hA hk hm => B3 X A (hHw.2.1.2.1 X (List.mem_of_getElem? hX)) (hHw.2.1.1 A hA) hk hm)).sn Nw)) ?_
      rintro v5 s6' ⟨⟨rfl, F6', ⟨-, -, r200⟩, vs', I6', h9⟩, N6'⟩
      rw [← hAn, List.append_assoc] at I6'
      refine ⟨rfl, fun x7 hx7 => ?_⟩
      have := hx7 (by omega)
      refine ⟨⟨rfl, rfl, N6', JFz_tr Jw (JFz_i F6'), c + 1, by omega, by omega, vs ++ vs', I6', fun z c' hc' => ?_⟩, by dsimp only; omega⟩
      by_cases e : c' = c
      · rw [e]
        exact h9 z
      · rw [← hw zf c' (by omega), KI_p (by omega), KI_p (by omega), r200 _ (by omega)]
    · refine Zt.imp (Zt.mo (d := 36) (by omega) ((zi_99x (d := 0) (c := c) (X := X) hP Iw zf (by omega) hX).sn Nw)) ?_
      rintro v5 s6' ⟨⟨rfl, F6', f6', I6'⟩, N6'⟩
      refine ⟨rfl, fun x7 hx7 => ?_⟩
      have := hx7 (by omega)
      exact ⟨⟨rfl, rfl, N6', JFz_tr Jw (JFz_i F6'), c + 1, by omega, by omega, vs, I6', fun z => absurd (by rw [← f6']; exact z) zf⟩, by dsimp only; omega⟩
  -- all CALLS were held against all
  have hall : (s2'.1 197 10).toInt = 0 → ALc An ts cs (ms ++ vs) := fun z X hX A hA => by
    obtain ⟨c', hc'⟩ := List.getElem?_of_mem hX
    obtain ⟨t', ht'⟩ := List.getElem?_of_mem hA
    have hl := (List.getElem?_eq_some_iff.mp hc').1
    have hl2 := (List.getElem?_eq_some_iff.mp ht').1
    obtain ⟨dn, d1, d2, d3⟩ := hDNw z c' X hc'
    have := hw z c' (by omega)
    exact d3 t' A (by omega) ht'
  -- METHODS
  refine ⟨fun g2 g3 g4 zq => g2 = b2 ∧ g3 = b3 ∧ SNz zq ∧ JFz P s6 zq ∧ ∃ m : Nat, g4.toInt = (m : Int) ∧ ms.length ≤ m ∧ m ≤ (ms ++ vs).length ∧ ∃ (ws : List (List Int)) (us : List Cal), IOd Dr Bd An ar P zq (ts ++ ws) (cs ++ us) (ms ++ vs) ∧ ((zq.1 197 10).toInt = 0 → BMc ar (mnC K L W ar kd TN Ls mB) (cdZ K L W ar kd TN Ls Z0) (ts ++ ws) (cs ++ us) (ms ++ vs) m ∧ (m = ms.length → ALc An (ts ++ ws) (cs ++ us) (ms ++ vs))), fun _ _ g4 _ => (151 - g4.toInt).toNat, ⟨rfl, rfl, Nw, Jw, ms.length, e6', Nat.le_refl _, by rw [List.length_append]; omega, [], [], by rw [List.append_nil, List.append_nil]; exact Iw, fun z => ⟨?_, fun _ => by rw [List.append_nil, List.append_nil]; exact hall z⟩⟩, ?_⟩
  · have := BMc_a (ws := []) (us := []) (vs := vs) (Nat.le_refl _) hb0
    exact this
  rintro g2 g3 g4 zq ⟨k2, k3, Nz, Jz, m, hgm, hm1, hm2, ws, us, Iz, hz⟩
  subst k2 k3
  obtain ⟨⟨hTz, nxz, hcz, hRz⟩, hHz, -⟩ := id Iz
  have s202' := hRz.2.2.2.1
  have nx : ((zq.1 197 10).toInt = 0 → m = (ms ++ vs).length) → v_97_79 (fun j => Zt (d + 54 + 8) (wd2 P j) j) P (fun a2' a3' s' => (0 ≤ a3'.toInt ∧ a3'.toInt ≤ 151 ∧ SNz s' ∧ JFz P s6 s' ∧ ∃ (ts : List (List Int)) (cs ms : List Cal), IOd Dr Bd An ar P s' ts cs ms ∧ ((s'.1 197 10).toInt = 0 → BMc ar (mnC K L W ar kd TN Ls mB) (cdZ K L W ar kd TN Ls Z0) ts cs ms ms.length ∧ (-1 ≤ a2'.toInt ∧ a2'.toInt ≤ (ms.length : Int) ∧ a3'.toInt ≤ a2'.toInt + 1) ∧ (a2'.toInt = (ms.length : Int) → ALc An ts cs ms))) ∧ (151 - a3'.toInt).toNat < (151 - g3.toInt).toNat) g2 g3 g4 zq (fun v s' => v = none ∧ MKz P s s' ∧ PGz K L W ar kd TN Ls n k0 mB P k z gg s' ∧ (s'.1 197 8).toInt = 1 ∧ MKo Dr Bd (clM ar (mnC K L W ar kd TN Ls mB) (cdZ K L W ar kd TN Ls Z0) (fxD K L W TN Ls) (fun c => kd c = 1) (fun A t => mvD K L W ar kd TN Ls A A t)) s') := fun hend => by
    unfold v_97_79
    intro x1 hx1
    have := hx1 (by omega)
    refine ⟨⟨by omega, by omega, Nz, Jz, ts ++ ws, cs ++ us, ms ++ vs, Iz, fun z => ?_⟩, by omega⟩
    obtain ⟨k1, k2⟩ := hz z
    have em := hend z
    rw [← em]
    refine ⟨k1, by omega, fun w => k2 (by omega)⟩
  unfold v_97_63
  refine Zt.imp (Zt.mo (d := 9) (by omega) (zw_96 (d := 0) hP)) ?_
  rintro v1 s2'' ⟨hs, x5, rfl, q5⟩
  subst hs
  have e5 := q5 (by omega)
  refine ⟨x5, rfl, fun y5 => nx (fun _ => by omega), fun y5 => ⟨fun zn => nx (fun z => absurd z zn), fun z5 x4 hx4 => ?_⟩⟩
  have ex4 := hx4 (by omega)
  have hmm : m < (ms ++ vs).length := by omega
  obtain ⟨X, hX⟩ : ∃ X, (ms ++ vs)[m]? = some X := ⟨_, List.getElem?_eq_getElem hmm⟩
  have Gz := PGz_j hP Jz G6
  obtain ⟨hA, hSG⟩ := PG_ar h Gz
  have hFz : (s2''.1 (P + 26) 2).toInt = 10 * (kFn K Ls : Int) := Gz.1.2.2.2.2.2.2.1.2.1
  refine Zt.imp (Zt.mo (d := 27) (by omega) ((zi_101 (d := 0) (m := m) (X := X) hP hA ha h24 hSG Iz (by omega) hX (by omega)).sn Nz)) ?_
  rintro v5 s6' ⟨⟨f6, r6', E6, x7, rfl, gb, gx⟩, N6'⟩
  refine ⟨x7, rfl, ?_⟩
  have J6 := JFz_6 hP f6 r6'
  have J6s := JFz_tr Jz J6
  have efn : fnc s6' P X.2.1 8 = fnc s2'' P X.2.1 8 := by
    unfold fnc
    rw [r6' _ (by omega)]
  have hSzq : 6 * z ≤ (s6'.1 (P + 34) 2).toInt := by
    rw [J6s.2.2 (P + 34) 2 (fun q => by omega) (fun q => by omega) (fun q => by omega) (fun q => by omega)]
    exact hSz6
  obtain ⟨nX, nY, hgd⟩ := cdZ_gd (g := X.2.1) h hPk hPc (PGz_j hP J6 Gz) hSzq (by obtain ⟨nX, nY, g⟩ := hZ6; exact ⟨nX, nY, GDc_j hP J6s g⟩) (by rw [f6]; exact gb)
  have hDX := hHz.2.1.2.2 X (List.mem_of_getElem? hX)
  refine Zt.imp (Zt.mo (d := 45) (by omega) ((zi_gd (d := 0) (η := eta (argT ar X.1) X.2.2) hP h (PGz_j hP J6 Gz) N6' hgd (Or.inr E6) (IOd_6 hP f6 r6' Iz) (by rw [f6]; exact z5) (by rw [efn]; exact gx) (fun x hx => Db X.1 X.2.1 X.2.2 x hDX hx) (B2 X hDX)).sn N6')) ?_
  rintro v8 s9 ⟨⟨rfl, F9, ws', us', I9, h9⟩, N9⟩
  refine ⟨rfl, fun x10 hx10 => ?_⟩
  have := hx10 (by omega)
  rw [List.append_assoc, List.append_assoc] at I9 h9
  refine ⟨⟨rfl, rfl, N9, JFz_tr Jz (JFz_tr J6 (JFz_i F9)), m + 1, by omega, by omega, by omega, ws ++ ws', us ++ us', I9, fun z => ⟨?_, fun w => by omega⟩⟩, by dsimp only; omega⟩
  obtain ⟨k1, -⟩ := hz z5
  have k3 := BMc_a (ws := ws') (us := us') (vs := []) (by omega) k1
  rw [List.append_nil, List.append_assoc, List.append_assoc] at k3
  obtain ⟨h91, h92⟩ := h9 z
  refine ⟨k3.1, fun m' X' hm' hX' => ?_⟩
  by_cases e : m' = m
  · rw [e, hX] at hX'
    rw [← Option.some.inj hX']
    exact ⟨h91, h92⟩
  · exact k3.2 m' X' (by omega) hX'
/-- what made answers, by Stock -/
def mdZ (s : zS) (x : Int) : Int := if (s.1 197 9).toInt = 0 then -1 else if x = 0 then (s.1 198 2).toInt else if x = 1 then (s.1 200 2).toInt / 10 else if x = 2 then (s.1 202 2).toInt / 9 else -1
/-- made -/
theorem zi_146 (hP : P = 3 ∨ P = 39) (hn : ¬ (s.1 197 9).toInt = 0 → 0 ≤ (s.1 200 2).toInt ∧ 0 ≤ (s.1 202 2).toInt) : Zu (d + 18) [] [(0, 9, P)] [] 146 [.ref 0, .int a1] s (fun v s' => s' = s ∧ ∃ r : Int32, v = some (.int r) ∧ r.toInt = mdZ s a1.toInt) := by
  refine zc_146 (d := d + 9) hP ?_
  unfold v_146_0
  refine ⟨fun h9 => ⟨fun hx => ⟨rfl, _, rfl, ?_⟩, fun h0 => ⟨rfl, _, rfl, ?_⟩, fun h1 => ?_, fun h2 => ?_⟩, fun h9 => ⟨rfl, _, rfl, ?_⟩⟩
  · unfold mdZ
    rw [if_neg h9, if_neg hx.1, if_neg hx.2.1, if_neg hx.2.2]
    decide
  · unfold mdZ
    rw [if_neg h9, if_pos h0]
  · refine Zt.imp (Zt.mo (d := 9) (by omega) (zw_95 (d := 0) hP)) ?_
    rintro v1 s2 ⟨hs, r, rfl, hr⟩
    refine ⟨r, rfl, hs, r, rfl, ?_⟩
    unfold mdZ
    rw [if_neg h9, if_neg (by omega), if_pos h1]
    exact hr (hn h9).1
  · refine Zt.imp (Zt.mo (d := 9) (by omega) (zw_96 (d := 0) hP)) ?_
    rintro v1 s2 ⟨hs, r, rfl, hr⟩
    refine ⟨r, rfl, hs, r, rfl, ?_⟩
    unfold mdZ
    rw [if_neg h9, if_neg (by omega), if_neg (by omega), if_pos h2]
    exact hr (hn h9).2
  · unfold mdZ
    rw [if_pos h9]
    decide
theorem MKz_rf : MKz P s s := ⟨fun _ _ _ _ _ _ _ _ _ => rfl, fun _ _ => rfl, fun _ _ _ _ _ _ _ => rfl⟩
/-- what lies at 0 is code -/
theorem z0_gd (hPk : PCk K L W ar kd TN Ls mB) (hPc : PCc K L W ar kd TN Ls mB) (G : PGz K L W ar kd TN Ls n k0 mB P k z gg s) (hSz : 6 * z ≤ (s.1 (P + 34) 2).toInt) : ∃ (Z0 : List Ins) (nX nY : Int), GDc ar (TN.length : Int) nX nY P k z s 0 Z0 := by
  rcases G.2.2.2.2.1.2.2 with q | ⟨g, p, hp, q⟩
  · have := q.2.1
    have h3 : 6 * (0 + ((mnC K L W ar kd TN Ls mB).length : Int)) ≤ (s.1 (P + 34) 2).toInt := by omega
    exact ⟨mnC K L W ar kd TN Ls mB, _, _, _, ⟨rfl, noL_E _ _⟩, q, ⟨hPk.2, hPc.2⟩, h3⟩
  · have := q.2.1
    have h3 : 6 * (0 + ((fnC K L W ar kd TN Ls p).length : Int)) ≤ (s.1 (P + 34) 2).toInt := by omega
    exact ⟨fnC K L W ar kd TN Ls p, _, _, _, ⟨rfl, noL_E _ _⟩, q, ⟨hPk.1 g p hp, hPc.1 g p hp⟩, h3⟩
/-- what instances leaves -/
def INz (K L W ar kd : Int → Int) (TN Ls : List Int) (mB : Int) (s s' : zS) (r : Int32) : Prop := ((s.1 0 11).toInt = 0 ∧ s' = s ∧ r.toInt = -1) ∨ (¬ (s.1 0 11).toInt = 0 ∧ ¬ (s.1 197 8).toInt = 0 ∧ s' = s ∧ r.toInt = mdZ s 2) ∨ (¬ (s.1 0 11).toInt = 0 ∧ (s.1 197 8).toInt = 0 ∧ (s'.1 197 8).toInt = 1 ∧ (∃ Z0 : List Ins, MKo (DrM ar (mnC K L W ar kd TN Ls mB) (cdZ K L W ar kd TN Ls Z0) (fxD K L W TN Ls) (fun c => kd c = 1) (fun A t => mvD K L W ar kd TN Ls A A t)) (BdM ar (mnC K L W ar kd TN Ls mB) (cdZ K L W ar kd TN Ls Z0) (fxD K L W TN Ls) (fun c => kd c = 1) (fun A t => mvD K L W ar kd TN Ls A A t)) (clM ar (mnC K L W ar kd TN Ls mB) (cdZ K L W ar kd TN Ls Z0) (fxD K L W TN Ls) (fun c => kd c = 1) (fun A t => mvD K L W ar kd TN Ls A A t)) s') ∧ r.toInt = mdZ s' 2)
/-- instances -/
theorem zi_145 (hP : P = 3 ∨ P = 39) (h : PRm K L W ar kd n lo hi TN Ls) (hPk : PCk K L W ar kd TN Ls mB) (hPc : PCc K L W ar kd TN Ls mB) (G : PGz K L W ar kd TN Ls n k0 mB P k z gg s) (hSz : 6 * z ≤ (s.1 (P + 34) 2).toInt) (hN : SNz s) (hn : ¬ (s.1 197 8).toInt = 0 → ¬ (s.1 197 9).toInt = 0 → 0 ≤ (s.1 200 2).toInt ∧ 0 ≤ (s.1 202 2).toInt) : Zu (d + 72) [(75, 0), (75, 1), (75, 2), (197, 5), (197, 6)] [(0, 9, P)] [] 145 [.ref 0] s (fun v s' => MKz P s s' ∧ PGz K L W ar kd TN Ls n k0 mB P k z gg s' ∧ ∃ r : Int32, v = some (.int r) ∧ INz K L W ar kd TN Ls mB s s' r) := by
  refine zc_145 (d := d + 63) hP ?_
  have fin : ∀ w : zS, MKz P s w → PGz K L W ar kd TN Ls n k0 mB P k z gg w → (¬ (w.1 197 9).toInt = 0 → 0 ≤ (w.1 200 2).toInt ∧ 0 ≤ (w.1 202 2).toInt) → (∀ r : Int32, r.toInt = mdZ w 2 → INz K L W ar kd TN Ls mB s w r) → v_145_20 (fun j => Zt (d + 63 + 8) (wd2 P j) j) P (d + 63 + 8) w (fun v s' => MKz P s s' ∧ PGz K L W ar kd TN Ls n k0 mB P k z gg s' ∧ ∃ r : Int32, v = some (.int r) ∧ INz K L W ar kd TN Ls mB s s' r) := fun w Mw Gw hw hq => by
    unfold v_145_20
    refine Zu.imp (Zu.mo (d := 18) (by omega) (zi_146 (d := 0) hP hw)) ?_
    rintro v1 s2 ⟨hs, r, rfl, hr⟩
    rw [hs]
    exact ⟨r, rfl, Mw, Gw, r, rfl, hq r hr⟩
  unfold v_145_0
  refine ⟨fun h11 => ⟨fun h8 => fin _ MKz_rf G (hn h8) (fun r hr => Or.inr (Or.inl ⟨h11, h8, rfl, hr⟩)), fun h8 => ?_⟩, fun h11 => ⟨MKz_rf, G, _, rfl, Or.inl ⟨h11, rfl, by decide⟩⟩⟩
  refine Zu.imp (Zu.mo (d := 18) (by omega) ((zs_81r (d := 0) hP).sn hN)) ?_
  rintro v1 s2 ⟨⟨rfl, r2, t2, -, f2⟩, N2⟩
  refine ⟨rfl, ?_⟩
  have G2 : PGz K L W ar kd TN Ls n k0 mB P k z gg s2 := PGz_v hP r2 (fun c q _ hc => f2 c q (by omega)) (by rw [f2 0 11 (by decide), f2 0 12 (by decide)]; exact G.2.2.2.2.2) G
  have hSz2 : 6 * z ≤ (s2.1 (P + 34) 2).toInt := by
    rw [f2 (P + 34) 2 (by omega)]
    exact hSz
  obtain ⟨Z0, hZ0⟩ := z0_gd hPk hPc G2 hSz2
  refine Zu.imp (Zu.mo (d := 63) (by omega) (zi_97 (d := 0) hP h hPk hPc G2 N2 (by rw [t2]; decide) hSz2 hZ0)) ?_
  rintro v3 s4 ⟨rfl, M4, G4, h4, K4⟩
  refine ⟨rfl, fin _ ⟨fun r a1 a2 a3 a4 a5 a6 a7 a8 => by rw [M4.1 r a1 a2 a3 a4 a5 a6 a7 a8, r2], fun j hj => by rw [M4.2.1 j hj, r2], fun c q a1 a2 a3 a4 a5 => by rw [M4.2.2 c q a1 a2 a3 a4 a5, f2 c q a1]⟩ G4 (fun _ => ?_) (fun r hr => Or.inr (Or.inr ⟨h11, h8, h4, ⟨Z0, K4⟩, hr⟩))⟩
  obtain ⟨ts, cs, ms, ⟨e1, e2, e3⟩, -⟩ := K4
  omega
end ZVM
