/-! ===== the class: Stock with what its Rows hold: addTypes ===== -/
section ZVB
variable {ar : Int → Int} {P d e : Nat} {s s' u w : zS} {nx nx' x b : Int} {A B D : List Int} {ts : List (List Int)} {ca me : Nat} {a1 a2 : Int32} {η : Nat → List Int}
theorem sbs_ci (hη : ∀ p, p < 12 → ∀ c ∈ η p, 0 ≤ c ∧ c < 36) (hA : ∀ c ∈ A, 0 ≤ c ∧ c < 36) : ∀ c ∈ sbs η A, 0 ≤ c ∧ c < 36 := fun c hc => by
  unfold sbs at hc
  obtain ⟨c0, h0, hc⟩ := List.mem_flatMap.mp hc
  have h1 := hA c0 h0
  by_cases q : c0 < 24
  · rw [if_pos q] at hc
    rw [List.mem_singleton.mp hc]
    exact h1
  · rw [if_neg q] at hc
    exact hη _ (by omega) c hc
theorem TQi_len (h : TQi ar A) : 0 < A.length := by
  cases A with
  | nil => exact absurd rfl (isR_ne h.1)
  | cons c l => exact Nat.succ_pos _
theorem subT_0 (h : isR ar 1 B) : subT ar B 0 = B := by
  have := tkT_app (a := ar) B [] 1 h
  rw [List.append_nil] at this
  unfold subT
  rw [List.drop_zero, this]
/-- what stands within a TYPE -/
theorem TQi_sub (h6 : ∀ c, 0 ≤ ar c ∧ ar c ≤ 7) (h : TQi ar B) {i : Nat} (hi : i < B.length) : TQi ar (subT ar B i) ∧ i + (subT ar B i).length ≤ B.length ∧ ∀ (P : Nat) (s : zS) (x : Int), WDz P s x B → WDz P s (x + (i : Int)) (subT ar B i) := by
  obtain ⟨c, hc⟩ : ∃ c, B[i]? = some c := ⟨_, List.getElem?_eq_getElem hi⟩
  obtain ⟨g1, g2, -⟩ := subT_ok (fun c => (h6 c).1) h.1 hc
  obtain ⟨D, hD⟩ : ∃ D, D = subT ar B i := ⟨_, rfl⟩
  rw [← hD] at g1 g2 ⊢
  have hl : D.length ≤ B.length - i := by
    have := congrArg List.length g2
    rw [List.length_drop, List.length_append] at this
    omega
  have hg : ∀ (j : Nat) (c : Int), D[j]? = some c → B[i + j]? = some c := fun j c hj => by
    have hjl := (List.getElem?_eq_some_iff.mp hj).1
    rw [← List.getElem?_drop, g2, List.getElem?_append_left hjl]
    exact hj
  refine ⟨⟨g1, by have := h.2.1; omega, fun c hc => ?_⟩, by omega, fun P s x hw j c hj => ?_⟩
  · obtain ⟨j, hj⟩ := List.getElem?_of_mem hc
    exact h.2.2 c (List.mem_of_getElem? (hg j c hj))
  · rw [show x + (i : Int) + (j : Int) = x + ((i + j : Nat) : Int) by omega]
    exact hw (i + j) c (hg j c hj)
theorem subT_2 (h6 : ∀ c, 0 ≤ ar c ∧ ar c ≤ 7) (h : isR ar 1 B) {i j : Nat} (hi : i < B.length) (hj : j < (subT ar B i).length) : subT ar (subT ar B i) j = subT ar B (i + j) := by
  obtain ⟨r1, r2, -⟩ := subT_ok (fun c => (h6 c).1) h (List.getElem?_eq_getElem hi)
  have e := (subT_app (C := (tkT ar 1 (B.drop i)).2) (fun c => (h6 c).1) r1 hj).1
  rw [← r2] at e
  rw [← e]
  unfold subT
  rw [List.drop_drop]
theorem nd_snoc {α : Type} {l : List α} {a : α} (h : l.Nodup) (ha : ¬ a ∈ l) : (l ++ [a]).Nodup := by
  rw [List.nodup_append]
  refine ⟨h, List.nodup_cons.mpr ⟨List.not_mem_nil, List.nodup_nil⟩, fun x hx y hy e => ?_⟩
  rw [List.mem_singleton.mp hy] at e
  rw [e] at hx
  exact ha hx
/-- put, of a TYPE of the code -/
theorem zi_87 (hP : P = 3 ∨ P = 39) (hA : KI (s.2 (P + 22)) = ar) (h6 : ∀ c, 0 ≤ ar c ∧ ar c ≤ 7) (h24 : ∀ c, 24 ≤ c → ar c = 0) (ht : (s.1 75 3).toInt = 18) (hq : TQi ar A) (hE : (∀ c ∈ A, c < 24) ∨ EQe ar P η s) (h1 : 18738 ≤ a1.toInt ∧ a1.toInt ≤ 83000) (hw : WDz P s a1.toInt A) : Zt (d + 9) (wd P 87) 87 [.ref 75, .int a1, .ref 76] s (fun v s' => PFzq P 18 s s' ∧ ∃ r : Int32, v = some (.int r) ∧ ((r.toInt = -1 ∧ 60 < (sbs η A).length) ∨ (¬ 60 < (sbs η A).length ∧ TQi ar (sbs η A) ∧ WDz P s' r.toInt (sbs η A) ∧ (r = a1 ∨ r.toInt = 18)))) := by
  have hql := hq.2.1
  rcases hE with hE | ⟨hE, hη⟩
  · refine Zt.imp (zs_87gq (η := fun _ => []) (t := 18) hP (by decide) hA h6 ht ⟨by decide, by decide⟩ (Or.inl hE) hq.1 hq.2.1 hq.2.2 ⟨by omega, by omega⟩ hw (Or.inr (by omega))) ?_
    rintro v s' ⟨f, r, rfl, g⟩
    refine ⟨f, r, rfl, ?_⟩
    rw [sbs_pl A hE] at g
    rw [sbs_pl A hE]
    rcases g with ⟨g1, g, -⟩ | ⟨g1, g2, g3⟩
    · omega
    · refine Or.inr ⟨by omega, hq, g2, ?_⟩
      rcases g3 with q | q
      · exact Or.inl q.1
      · exact Or.inr q.1
  · refine Zt.imp (zs_87gq (η := η) (t := 18) hP (by decide) hA h6 ht ⟨by decide, by decide⟩ (Or.inr (ENzu_q hE)) hq.1 hq.2.1 hq.2.2 ⟨by omega, by omega⟩ hw (Or.inr (by omega))) ?_
    rintro v s' ⟨f, r, rfl, g⟩
    refine ⟨f, r, rfl, ?_⟩
    rcases g with ⟨g1, g, -⟩ | ⟨g1, g2, g3⟩
    · exact Or.inl ⟨g, g1⟩
    · refine Or.inr ⟨by omega, ⟨?_, g1, sbs_ci (fun p hp => (hη p hp).2.2) hq.2.2⟩, g2, ?_⟩
      · exact sbs_R A 1 hq.1 (fun c hc h => ⟨h24 c h, (hη _ (by have := hq.2.2 c hc; omega)).1⟩)
      · rcases g3 with q | q
        · exact Or.inl q.1
        · exact Or.inr q.1
end ZVB
/-- behind addTypes: of B, which is put -/
def ATq (Dr : Mit → Prop) (Bd : Prop) (An : List Int → Cal → List Cal → Prop) (ar : Int → Int) (P : Nat) (s : zS) (ts : List (List Int)) (cs ms : List Cal) (B : List Int) (v : Option Value) (s' : zS) : Prop := AFz P s s' ∧ (∀ j : Nat, j < ts.length → s'.2 198 j = s.2 198 j) ∧ ∃ (ws : List (List Int)) (r : Int32), IOd Dr Bd An ar P s' (ts ++ ws) cs ms ∧ v = some (.int r) ∧ (-1000 ≤ r.toInt ∧ r.toInt ≤ 100000) ∧ ((s'.1 197 10).toInt = 0 → ¬ 60 < B.length ∧ (∀ i : Nat, i < B.length → subT ar B i ∈ ts ++ ws) ∧ ∃ j : Nat, (ts ++ ws)[j]? = some B ∧ r.toInt = KI (s'.2 198) (j : Int))
section ZVC
variable {Dr : Mit → Prop} {Bd : Prop} {An : List Int → Cal → List Cal → Prop} {ar : Int → Int} {P d : Nat} {s : zS} {A : List Int} {a1 : Int32} {η : Nat → List Int} {ts : List (List Int)} {cs ms : List Cal}
set_option maxHeartbeats 4000000 in
/-- addTypes -/
theorem zi_106 (hP : P = 3 ∨ P = 39) (hA : KI (s.2 (P + 22)) = ar) (h6 : ∀ c, 0 ≤ ar c ∧ ar c ≤ 7) (h24 : ∀ c, 24 ≤ c → ar c = 0) (hq : TQi ar A) (hE : (∀ c ∈ A, c < 24) ∨ EQe ar P η s) (h1 : 18738 ≤ a1.toInt ∧ a1.toInt ≤ 83000) (hw : WDz P s a1.toInt A) (hI : IOd Dr Bd An ar P s ts cs ms) (h0 : (s.1 197 10).toInt = 0) (hDr : ¬ 60 < (sbs η A).length → ∀ i : Nat, i < (sbs η A).length → Dr (it0 (subT ar (sbs η A) i))) (hBd : 60 < (sbs η A).length → Bd) : Zt (d + 27) (wd2 P 106) 106 [.ref 197, .int a1] s (ATq Dr Bd An ar P s ts cs ms (sbs η A)) := by
  obtain ⟨⟨hT, nx, hc, hR⟩, ⟨⟨hnt, hnc, hnm⟩, ⟨hd0, hd1, hd2⟩, hSB, -⟩, hDN⟩ := hI
  have hDN := hDN h0
  obtain ⟨⟨n1, n2, n3⟩, r1, r2, r3⟩ := id hR
  have hSB := hSB h0
  refine zc_106 (d := d + 18) hP ?_
  unfold v_106_0
  refine Zt.imp (Zt.mo (d := 9) (by omega) (zi_87 (d := 0) hP hA h6 h24 hT hq hE h1 hw)) ?_
  rintro v1 s2 ⟨f2, x3, rfl, g⟩
  refine ⟨x3, rfl, fun s4 hs4 => ?_⟩
  obtain ⟨B, hBe⟩ : ∃ B, B = sbs η A := ⟨_, rfl⟩
  rw [← hBe] at hDr hBd g ⊢
  have f4 : s4.1 = s.1 := by
    funext b q
    rw [hs4, zf_1]
    by_cases e : b = 75 ∧ q = 3
    · rw [if_pos e, e.1, e.2]
    · rw [if_neg e, f2.2.2 b q e]
  have w4 : ∀ r, ¬ r = P + 18 → s4.2 r = s.2 r := fun r hr => by
    rw [hs4, zf_2]
    exact f2.1 r hr
  have wd4 : ∀ j : Nat, ((j : Int) < 18 ∨ 138 ≤ (j : Int)) → s4.2 (P + 18) j = s.2 (P + 18) j := fun j hj => by
    rw [hs4, zf_2]
    exact f2.2.1 j hj
  have F4 : AFz P s s4 := ⟨fun r a _ => w4 r a, ⟨fun j hj => wd4 j (by omega), by rw [f4]; exact Int.le_refl _⟩, fun c q _ _ => by rw [f4]⟩
  have R4 : IRz ar P s4 nx ts cs ms := IRz_f (fun j j1 _ => wd4 j (by omega)) (by rw [f4]) (by rw [f4]; exact ⟨rfl, rfl, rfl, rfl⟩) ⟨w4 _ (by omega), w4 _ (by omega), w4 _ (by omega)⟩ hR
  have T4 : (s4.1 75 3).toInt = 18 := by rw [f4]; exact hT
  have hwB' : ∀ i c, WDz P s2 i c → WDz P s4 i c := fun i c h j c' hj => by
    rw [hs4, zf_2]
    exact h j c' hj
  clear hs4 f2
  refine ⟨fun x0 => ?_, fun y0 s11 hs11 => ?_⟩
  rotate_left
  · have hbig : 60 < B.length := by
      rcases g with g | ⟨-, -, -, q | q⟩
      · exact g.2
      · rw [q] at y0
        omega
      · omega
    have F11 : ∀ c q, ¬ (c = 197 ∧ q = 10) → s11.1 c q = s4.1 c q := fun c q hcq => by rw [hs11, zf_1, if_neg hcq]
    have e11 : s11.2 = s4.2 := by rw [hs11, zf_2]
    have z11 : ¬ (s11.1 197 10).toInt = 0 := by
      rw [hs11, zf_1, if_pos ⟨rfl, rfl⟩]
      decide
    refine ⟨AFz_tr F4 ⟨fun r _ _ => by rw [e11], ⟨fun j _ => by rw [e11], by rw [F11 197 7 (by decide)]; exact Int.le_refl _⟩, fun c q a _ => F11 c q (fun z => a ⟨z.1, Or.inr z.2⟩)⟩, fun j _ => by rw [e11, w4 198 (by omega)], [], -1, ?_, rfl, by decide, fun z => absurd z z11⟩
    rw [List.append_nil]
    exact ⟨⟨by rw [F11 75 3 (by decide)]; exact T4, nx, ⟨hc.1, fun z => absurd z z11⟩, IRz_f (fun j _ _ => by rw [e11]) (F11 197 7 (by decide)) ⟨F11 198 2 (by decide), F11 200 2 (by decide), F11 202 2 (by decide), F11 (P + 26) 2 (fun z => by omega)⟩ ⟨by rw [e11], by rw [e11], by rw [e11]⟩ R4⟩, ⟨⟨hnt, hnc, hnm⟩, ⟨hd0, hd1, hd2⟩, fun z => absurd z z11, fun _ => Or.inl (hBd hbig)⟩, fun z => absurd z z11⟩
  obtain ⟨hB60, hB, hwB2, hpl2⟩ : ¬ 60 < B.length ∧ TQi ar B ∧ WDz P s2 x3.toInt B ∧ (x3 = a1 ∨ x3.toInt = 18) := by
    rcases g with g | g
    · have := g.1
      omega
    · exact g
  have hwB := hwB' _ _ hwB2
  have hpl : x3.toInt = 18 ∨ (18738 ≤ x3.toInt ∧ x3.toInt ≤ 83000) := by
    rcases hpl2 with q | q
    · exact Or.inr (by rw [q]; exact h1)
    · exact Or.inl q
  have hDr := hDr hB60
  clear g hwB' hpl2 hwB2
  have hB0 := TQi_len hB
  have hBl := hB.2.1
  -- the TYPES within it
  have loop : ∀ t0 : Int32, ((t0.toInt = x3.toInt ∧ B ∈ ts) ∨ t0.toInt = x3.toInt + (B.length : Int)) → v_106_33 (fun j => Zt (d + 18 + 8) (wd2 P j) j) P a1 (s.1 75 3) x3 t0 s4 (ATq Dr Bd An ar P s ts cs ms B) := by
    intro t0 ht0
    unfold v_106_33
    refine ⟨fun _ _ b3 b4 b5 u => b3 = x3 ∧ b4 = t0 ∧ AFz P s4 u ∧ (∀ j : Nat, (j : Int) < nx ∨ 18738 ≤ (j : Int) → u.2 (P + 18) j = s4.2 (P + 18) j) ∧ (∀ j : Nat, j < ts.length → u.2 198 j = s4.2 198 j) ∧ ∃ i : Nat, b5.toInt = x3.toInt + (i : Int) ∧ i ≤ B.length ∧ ∃ (nx' : Int) (ts' : List (List Int)), (nx ≤ nx' ∧ ts'.length + cs.length + ms.length ≤ 151 ∧ ((u.1 197 10).toInt = 0 → ts'.length + cs.length + ms.length ≤ 150)) ∧ IRz ar P u nx' ts' cs ms ∧ (ts'.Nodup ∧ (∀ D ∈ ts', Dr (it0 D)) ∧ ∃ ws, ts' = ts ++ ws ∧ ∀ D ∈ ws, ∃ i' : Nat, i' < B.length ∧ D = subT ar B i') ∧ ((u.1 197 10).toInt = 0 → ∀ i' : Nat, i' < i → subT ar B i' ∈ ts') ∧ (¬ (u.1 197 10).toInt = 0 → 151 ≤ ts'.length + cs.length + ms.length), fun _ _ _ _ b5 _ => (t0.toInt - b5.toInt).toNat, ⟨rfl, rfl, AFz_rf, fun _ _ => rfl, fun _ _ => rfl, 0, by omega, Nat.zero_le _, nx, ts, ⟨Int.le_refl _, hc.1, by rw [f4]; exact hc.2⟩, R4, ⟨hnt, hd0, [], (List.append_nil _).symm, fun D hD => by cases hD⟩, fun _ i' hi' => absurd hi' (Nat.not_lt_zero _), fun w => absurd (by rw [f4]; exact h0) w⟩, ?_⟩
    rintro b1 b2 b3 b4 b5 u ⟨e3, e4, Fu, Wu, Ou, i, i1, i2, nx', ts', hc', Ru, ⟨hnd, hdr, ws, hws, hwi⟩, hm, hbig⟩
    subst e3 e4
    obtain ⟨⟨m1, m2, m3⟩, q1, q2, q3⟩ := id Ru
    have hnx' : nx' ≤ 18678 := by omega
    have hAu : KI (u.2 (P + 22)) = ar := by
      rw [Fu.1 _ (by omega) (by omega), w4 _ (by omega)]
      exact hA
    have Tu : (u.1 75 3).toInt = 18 := by
      rw [Fu.2.2 75 3 (by decide) (by decide)]
      exact T4
    have wB : WDz P u b3.toInt B := fun j c hj => by
      have hjl := (List.getElem?_eq_some_iff.mp hj).1
      rw [← hwB j c hj, KI_p (by omega), KI_p (by omega), Wu _ (by omega)]
    have out : ((u.1 197 10).toInt = 0 → ∀ i' : Nat, i' < B.length → subT ar B i' ∈ ts') → v_106_62 (fun j => Zt (d + 18 + 8) (wd2 P j) j) P b1 b2 b3 b4 b5 u (ATq Dr Bd An ar P s ts cs ms B) := by
      intro hfin
      unfold v_106_62
      refine Zt.imp (Zt.mo (d := 18) (by omega) (zi_98 (d := 0) (A := B) hP hAu h6 q1 (by omega) (by omega) hB (by omega) wB)) ?_
      rintro v1' u2 ⟨hs, x, rfl, hx⟩
      subst hs
      refine ⟨x, rfl, AFz_tr F4 Fu, fun j hj => by rw [Ou j hj, w4 198 (by omega)], ws, x, ?_, rfl, ?_, fun z => ?_⟩
      · rw [← hws]
        refine ⟨⟨Tu, nx', hc'.2, Ru⟩, ⟨⟨hnd, hnc, hnm⟩, ⟨hdr, hd1, hd2⟩, fun z A' hA' i' hi' => ?_, fun z => Or.inr (hbig z)⟩, fun _ => ?_⟩
        rotate_left
        · rw [hws]
          exact DNc_t (by rw [Fu.1 200 (by omega) (by decide), w4 200 (by omega)]) hDN
        rw [hws] at hA'
        rcases List.mem_append.mp hA' with q | q
        · rw [hws]
          exact List.mem_append_left _ (hSB A' q i' hi')
        · obtain ⟨i0, k1, k2⟩ := hwi A' q
          rw [k2] at hi' ⊢
          have k3 := (TQi_sub h6 hB k1).2.1
          rw [subT_2 h6 hB.1 k1 hi']
          exact hfin z (i0 + i') (by omega)
      · rcases hx with ⟨q, -⟩ | ⟨j, j1, j2⟩
        · omega
        · have := (q1.2 j B j1).2.1
          omega
      · rw [← hws]
        refine ⟨hB60, hfin z, ?_⟩
        rcases hx with ⟨-, q⟩ | ⟨j, j1, j2⟩
        · have w := hfin z 0 hB0
          rw [subT_0 hB.1] at w
          exact absurd w q
        · exact ⟨j, j1, j2⟩
    unfold v_106_36 v_106_60
    refine ⟨fun y => out (fun z => ?_), fun y => ⟨fun z => out (fun z' => absurd z' z), fun z => ?_⟩⟩
    · rcases ht0 with w | w
      · intro i' hi'
        rw [hws]
        exact List.mem_append_left _ (hSB B w.2 i' hi')
      · exact fun i' hi' => hm z i' (by omega)
    have hi : i < B.length := by omega
    obtain ⟨D, hD⟩ : ∃ D, D = subT ar B i := ⟨_, rfl⟩
    obtain ⟨d1, d2, d3⟩ := TQi_sub h6 hB hi
    rw [← hD] at d1 d2 d3
    have hDl := d1.2.1
    have wD : WDz P u b5.toInt D := by
      rw [i1]
      exact d3 P u b3.toInt wB
    refine Zt.imp (Zt.mo (d := 18) (by omega) (zi_98 (d := 0) (A := D) hP hAu h6 q1 (by omega) (by omega) d1 (by omega) wD)) ?_
    rintro v1' u2 ⟨hs, x, rfl, hx⟩
    subst hs
    refine ⟨x, rfl, fun xx x1 hx1 => ?_, fun xx => ?_⟩
    · have ex1 := hx1 (by clear hx; omega)
      refine ⟨⟨rfl, rfl, Fu, Wu, Ou, i + 1, by omega, by omega, nx', ts', hc', Ru, ⟨hnd, hdr, ws, hws, hwi⟩, fun z' i' hi' => ?_, hbig⟩, by dsimp only; omega⟩
      rcases hx with ⟨q, -⟩ | ⟨j, j1, -⟩
      · omega
      · by_cases e0 : i' = i
        · rw [e0, ← hD]
          exact List.mem_of_getElem? j1
        · exact hm z' i' (by omega)
    have hnew : ¬ D ∈ ts' := by
      rcases hx with ⟨-, q⟩ | ⟨j, j1, j2⟩
      · exact q
      · have := (q1.2 j D j1).2.1
        omega
    clear hx
    have hz150 := hc'.2.2 z
    refine Zt.imp (Zt.mo (d := 9) (by omega) (zs_83 (d := 0) (A := D) hP hAu h6 d1.1 (by omega) (by omega) wD)) ?_
    rintro v4 s5 ⟨hs5, x6, rfl, ex6⟩
    subst hs5
    refine ⟨x6, rfl, fun x7 hx7 => ?_⟩
    have e7 := hx7 (by omega)
    refine Zt.imp (Zt.mo (d := 9) (by omega) (zi_107 (d := 0) (A := D) (nx := nx') hP m1 ⟨by omega, by omega⟩ (by omega) hDl (by omega) (by omega) wD)) ?_
    rintro v8 s9 ⟨k1, k2, k3, k4, x10, rfl, k5, k6⟩
    refine ⟨x10, rfl, by omega, fun s11 hs11 => ?_⟩
    have l198 : (lim 198 : Int) = 151 := by decide +kernel
    have s198 : (s9.1 198 2).toInt = (ts'.length : Int) := by
      rw [k2 198 2 (by decide)]
      exact q1.1
    have c11 : ∀ r j, s11.2 r j = if r = 198 ∧ j = ts'.length then x10 else s9.2 r j := fun r j => by
      rw [hs11, za_c (by rw [l198]; omega), s198, Int.toNat_natCast]
    have f11 : ∀ b q, ¬ (b = 198 ∧ q = 2) → s11.1 b q = s9.1 b q := fun b q hb => by rw [hs11, za_o hb]
    have n11 : (s11.1 198 2).toInt = (ts'.length : Int) + 1 := by
      rw [hs11, za_n (by omega) (by omega), if_pos (by rw [l198]; omega)]
      omega
    have r11 : ∀ r, ¬ r = 198 → s11.2 r = s9.2 r := fun r hr => funext fun j => by rw [c11, if_neg (fun q => hr q.1)]
    clear hs11
    refine Zt.imp (Zt.mo (d := 18) (by omega) (zi_104 (d := 0) (ty := ts'.length + 1) (ca := cs.length) (me := ms.length) hP (by rw [n11]; omega) (by rw [f11 200 2 (by decide), k2 200 2 (by decide)]; exact q2.1) (by rw [f11 202 2 (by decide), k2 202 2 (by decide)]; exact q3.1))) ?_
    rintro v12 s13 ⟨rfl, j1, j2, j3, j4⟩
    refine ⟨rfl, fun x1 hx1 => ?_⟩
    have ex1 := hx1 (by omega)
    have z11 : (s11.1 197 10).toInt = 0 := by
      rw [f11 197 10 (by decide), k2 197 10 (by decide)]
      exact z
    have P198 : ¬ 198 = P + 18 := by omega
    have fo : ∀ b q, ¬ (b = 197 ∧ (q = 7 ∨ q = 10)) → ¬ (b = 198 ∧ q = 2) → s13.1 b q = s5.1 b q := fun b q h1 h2 => by rw [j2 b q (fun w => h1 ⟨w.1, Or.inr w.2⟩), f11 b q h2, k2 b q (fun w => h1 ⟨w.1, Or.inl w.2⟩)]
    have f7 : (s13.1 197 7).toInt = nx' + (D.length : Int) := by
      rw [j2 197 7 (by decide), f11 197 7 (by decide)]
      exact k3
    have ro : ∀ r, ¬ r = P + 18 → ¬ r = 198 → s13.2 r = s5.2 r := fun r h1 h2 => by rw [j1, r11 r h2, k1 r h1]
    have wo : ∀ j : Nat, ((j : Int) < nx' ∨ 18738 ≤ (j : Int)) → s13.2 (P + 18) j = s5.2 (P + 18) j := fun j hj => by
      rw [j1, r11 _ (by omega), k4 j (by omega)]
    have wn : WDz P s13 nx' D := fun j c hj => by
      rw [j1, r11 _ (by omega)]
      exact k6 j c hj
    have o8 : ∀ j : Nat, j < ts'.length → s13.2 198 j = s5.2 198 j := fun j hj => by rw [j1, c11, if_neg (fun q => by omega), k1 198 P198]
    have c8 : ∀ j : Nat, KI (s13.2 198) (j : Int) = if j = ts'.length then nx' else KI (s5.2 198) (j : Int) := fun j => by
      rw [KI_n, j1, c11]
      by_cases e : j = ts'.length
      · rw [if_pos ⟨rfl, e⟩, if_pos e]
        exact k5
      · rw [if_neg (fun q => e q.2), if_neg e, KI_n, k1 198 P198]
    have hfr : ∀ j : Nat, 9618 ≤ (j : Int) → (j : Int) < nx' → s13.2 (P + 18) j = s5.2 (P + 18) j := fun j _ hj => wo j (Or.inl hj)
    have e4 : (s4.1 197 7).toInt = nx := by
      rw [f4]
      exact n1
    have hlen : (ts' ++ [D]).length = ts'.length + 1 := by rw [List.length_append, List.length_singleton]
    refine ⟨⟨rfl, rfl, AFz_tr Fu ⟨ro, ⟨fun j hj => wo j (by omega), by omega⟩, fun c q => fo c q⟩, fun j hj => (wo j (by omega)).trans (Wu j hj), fun j hj => (o8 j (by rw [hws, List.length_append]; omega)).trans (Ou j hj), i + 1, by omega, by omega, nx' + (D.length : Int), ts' ++ [D], ⟨by omega, by rw [hlen]; omega, fun z' => ?_⟩, ⟨⟨f7, by omega, ?_⟩, ⟨?_, fun j A' hj => ?_⟩, IRc_f hfr (by omega) (fo 200 2 (by decide) (by decide)) (ro 200 (by omega) (by decide)) o8 q2, IRm_f hfr (by omega) (fo 202 2 (by decide) (by decide)) (ro 202 (by omega) (by decide)) o8 (fo (P + 26) 2 (fun z => by omega) (fun z => by omega)) q3⟩, ⟨nd_snoc hnd hnew, fun D' hD' => ?_, ws ++ [D], by rw [hws, List.append_assoc], fun D' hD' => ?_⟩, fun z' i' hi' => ?_, fun z' => ?_⟩, by dsimp only; omega⟩
    · rw [hlen]
      have := (j3 z').2
      omega
    · rw [hlen]
      omega
    · rw [j2 198 2 (by decide), n11, hlen]
      omega
    · rw [c8]
      by_cases e : j = ts'.length
      · rw [e, List.getElem?_concat_length] at hj
        rw [if_pos e, ← Option.some.inj hj]
        exact ⟨d1, ⟨by omega, by omega⟩, wn⟩
      · rw [if_neg e]
        have hjl := (List.getElem?_eq_some_iff.mp hj).1
        rw [hlen] at hjl
        rw [List.getElem?_append_left (by omega)] at hj
        exact MDt_f hfr (by omega) (q1.2 j A' hj)
    · rcases List.mem_append.mp hD' with q | q
      · exact hdr D' q
      · rw [List.mem_singleton.mp q, hD]
        exact hDr i hi
    · rcases List.mem_append.mp hD' with q | q
      · exact hwi D' q
      · exact ⟨i, hi, by rw [List.mem_singleton.mp q, hD]⟩
    · by_cases e0 : i' = i
      · rw [e0, ← hD]
        exact List.mem_append_right _ (List.mem_singleton.mpr rfl)
      · exact List.mem_append_left _ (hm z i' (by omega))
    · have := j4 z11 z'
      rw [hlen]
      omega
  refine Zt.imp (Zt.mo (d := 18) (by omega) (zi_98 (d := 0) (A := B) (ts := ts) (nx := nx) hP (by rw [w4 _ (by omega)]; exact hA) h6 R4.2.1 (by omega) (by omega) hB (by omega) hwB)) ?_
  rintro v5 s6 ⟨hs6, x7, rfl, hx7⟩
  subst hs6
  refine ⟨x7, rfl, fun y7 => loop x3 (Or.inl ⟨rfl, ?_⟩), fun _ => ?_⟩
  · rcases hx7 with ⟨q, -⟩ | ⟨j, j1, -⟩
    · omega
    · exact List.mem_of_getElem? j1
  refine Zt.imp (Zt.mo (d := 9) (by omega) (zs_83 (d := 0) (A := B) hP (by rw [w4 _ (by omega)]; exact hA) h6 hB.1 (by omega) (by omega) hwB)) ?_
  rintro v8 s9 ⟨hs9, x10, rfl, ex10⟩
  subst hs9
  exact ⟨x10, rfl, loop x10 (Or.inr ex10)⟩
end ZVC
