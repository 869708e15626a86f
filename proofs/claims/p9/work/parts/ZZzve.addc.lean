/-! ===== the class: Stock with all that its Rows hold: addCall ===== -/
section ZVI
variable {K L W ar kd : Int → Int} {TN Ls : List Int} {n k0 mB k z lo hi : Int} {P d : Nat} {s s' u : zS} {gg : Int × Int}
theorem PG_ar (h : PRm K L W ar kd n lo hi TN Ls) (G : PGz K L W ar kd TN Ls n k0 mB P k z gg s) : KI (s.2 (P + 22)) = ar ∧ SGz P s := by
  obtain ⟨m1, m2, -⟩ := cz_lk h G.1
  exact ⟨m1, m2⟩
/-- the program stays -/
theorem PGz_i (hP : P = 3 ∨ P = 39) (h : IFz P s s') (g : PGz K L W ar kd TN Ls n k0 mB P k z gg s) : PGz K L W ar kd TN Ls n k0 mB P k z gg s' := by
  obtain ⟨g1, g2, g3, g4, g5, g6⟩ := g
  have hf' : ∀ c q, c < 75 → s'.1 c q = s.1 c q := fun c q hc => h.2.2 c q (fun z => by omega) (fun z => by omega) (fun z => by omega) (fun z => by omega)
  have h0 : ∀ q, s'.1 0 q = s.1 0 q := fun q => hf' 0 q (by decide)
  have hr : ∀ r : Nat, r < 36 → ¬ r = 18 → s'.2 (P + r) = s.2 (P + r) := fun r r1 r2 => h.1 _ (by omega) (by omega) (by omega) (by omega) (by omega) (by omega) (by omega)
  have hf : ∀ q, s'.1 P q = s.1 P q := fun q => hf' P q (by omega)
  have hk : ∀ j : Nat, ((j : Int) < 18 ∨ 18738 ≤ (j : Int)) → s'.2 (P + 18) j = s.2 (P + 18) j := fun j hj => h.2.1.1 j (by omega)
  have hly : ∀ {pc : Int} {C : List Ins}, LYz P k z s pc C → LYz P k z s' pc C := fun g => LYz_k (fun j h1 _ => hk j (Or.inr h1)) (Int.le_refl _) (fun j _ => by rw [hr 34 (by decide) (by decide)]) (Int.le_refl _) g
  refine ⟨CSz_g hP (fun r hr' => hr r (by omega) (by omega)) (fun j _ => by rw [hr 26 (by decide) (by decide)]) (fun j hj => hk j (by omega)) (fun j _ => by rw [hr 20 (by decide) (by decide)]) (fun b hb => hf' b 2 (by omega)) g1, g2, fun g p hg => ?_, ?_, ?_, by rw [h0, h0]; exact g6⟩
  · have e : fnc s' P (g : Int) 8 = fnc s P (g : Int) 8 := by
      unfold fnc
      rw [hr 26 (by decide) (by decide)]
    rw [e]
    exact hly (g3 g p hg)
  · rw [hf 12]
    exact hly g4
  · rw [hf 13, hf 10]
    exact ⟨kpz_k (fun j h1 _ => hk j (Or.inr h1)) (Int.le_refl _) g5.1, g5.2.1, C0z_m (fun C g => hly g) g5.2.2⟩
/-- Row 204 alone is another -/
theorem IFz_4 (hP : P = 3 ∨ P = 39) (h1 : u.1 = s.1) (h2 : ∀ r, ¬ r = 204 → u.2 r = s.2 r) : IFz P s u := ⟨fun r _ _ _ _ _ _ h => h2 r h, ⟨fun j _ => by rw [h2 _ (by omega)], by rw [h1]; exact Int.le_refl _⟩, fun c q _ _ _ _ => by rw [h1]⟩
theorem IOd_4 {Dr : Mit → Prop} {Bd : Prop} {An : List Int → Cal → List Cal → Prop} {ts : List (List Int)} {cs ms : List Cal} (hP : P = 3 ∨ P = 39) (h1 : u.1 = s.1) (h2 : ∀ r, ¬ r = 204 → u.2 r = s.2 r) (g : IOd Dr Bd An ar P s ts cs ms) : IOd Dr Bd An ar P u ts cs ms := by
  obtain ⟨⟨g1, nx, g2, g3⟩, g4⟩ := g
  exact ⟨⟨by rw [h1]; exact g1, nx, by rw [h1]; exact g2, IRz_f (fun j _ _ => by rw [h2 _ (by omega)]) (by rw [h1]) (by rw [h1]; exact ⟨rfl, rfl, rfl, rfl⟩) ⟨h2 _ (by decide), h2 _ (by decide), h2 _ (by decide)⟩ g3⟩, by rw [h1]; exact g4.1, by rw [h1]; exact fun z => DNc_s (h2 200 (by decide)) (g4.2 z)⟩
theorem TGo_q {nT nX nY : Int} {A : List Int} (h : TGo ar nT nX nY A) : TQi ar A := ⟨h.1, h.2.1.1, fun c hc => ⟨(h.2.2 c hc).1, (h.2.2 c hc).2.1⟩⟩
/-- a TYPE of the code: what is put for its PARAMS -/
theorem hE_c {nT nX nY : Int} {A : List Int} {η : Nat → List Int} (hE : (nX = 0 ∧ nY = 0) ∨ EQe ar P η s) (h : TGo ar nT nX nY A) : (∀ c ∈ A, c < 24) ∨ EQe ar P η s := by
  rcases hE with ⟨q1, q2⟩ | q
  · rw [q1, q2] at h
    exact Or.inl (fun c hc => (cd_cl h.2.2 c hc).2)
  · exact Or.inr q
end ZVI
/-- behind the TYPES that a CALL tells, i of them -/
def TLi (ar : Int → Int) (η : Nat → List Int) (s : zS) (tw : List (List Int)) (Ts : List (List Int)) (i : Nat) : Prop := ∀ (i' : Nat) (A : List Int), i' < i → Ts[i']? = some A → (¬ 60 < (sbs η A).length ∧ ∀ q : Nat, q < (sbs η A).length → subT ar (sbs η A) q ∈ tw) ∧ ∃ j : Nat, tw[j]? = some (sbs η A) ∧ (s.2 204 (3 + i')).toInt = KI (s.2 198) (j : Int)
section ZVJ
variable {Dr : Mit → Prop} {Bd : Prop} {An : List Int → Cal → List Cal → Prop} {K L W ar kd : Int → Int} {TN Ls : List Int} {n k0 mB k z lo hi pc nX nY : Int} {P d : Nat} {s : zS} {gg : Int × Int} {I : Ins} {a1 : Int32} {η : Nat → List Int} {ts : List (List Int)} {cs ms : List Cal}
set_option maxHeartbeats 8000000 in
/-- addCall -/
theorem zi_108 (hP : P = 3 ∨ P = 39) (h : PRm K L W ar kd n lo hi TN Ls) (G : PGz K L W ar kd TN Ls n k0 mB P k z gg s) (hN : SNz s) (hpc : 0 ≤ pc ∧ pc ≤ 4001) (hi' : inz P k s pc I) (h5 : I.1 = 5) (hK : inK ar (TN.length : Int) nX nY I) (hk : TGo ar (TN.length : Int) nX nY I.2.1) (hE : (nX = 0 ∧ nY = 0) ∨ EQe ar P η s) (hI : IOd Dr Bd An ar P s ts cs ms) (h0 : (s.1 197 10).toInt = 0) (h1 : a1.toInt = 6 * pc) (hDt : ∀ A ∈ I.2.2.2.1, ¬ 60 < (sbs η A).length → ∀ q : Nat, q < (sbs η A).length → Dr (it0 (subT ar (sbs η A) q))) (hDc : Dr (itc (sbs η I.2.1, I.2.2.2.2, I.2.2.2.1.map (sbs η)))) (hBt : ∀ A ∈ I.2.2.2.1, 60 < (sbs η A).length → Bd) (hBc : 60 < (sbs η I.2.1).length → Bd) : Zt (d + 36) (wd2 P 108) 108 [.ref 197, .int a1] s (fun v s' => v = none ∧ IFz P s s' ∧ ∃ (ws : List (List Int)) (us : List Cal), IOd Dr Bd An ar P s' (ts ++ ws) (cs ++ us) ms ∧ ((s'.1 197 10).toInt = 0 → ¬ 60 < (sbs η I.2.1).length ∧ (∀ A ∈ I.2.2.2.1, ¬ 60 < (sbs η A).length ∧ ∀ q : Nat, q < (sbs η A).length → subT ar (sbs η A) q ∈ ts ++ ws) ∧ (sbs η I.2.1, I.2.2.2.2, I.2.2.2.1.map (sbs η)) ∈ cs ++ us)) := by
  obtain ⟨hA, hSG⟩ := PG_ar h G
  obtain ⟨ha, h24⟩ := PR_ar h
  have hk82 : k ≤ 82938 := G.2.1.2.2.1
  obtain ⟨-, -, -, -, -, g5⟩ := hi'
  obtain ⟨q1, q2, q4, q3, q5⟩ := g5 h5
  obtain ⟨tl6, tlG⟩ := hK.2.1 h5
  obtain ⟨Ts, hTs⟩ : ∃ Ts, Ts = I.2.2.2.1 := ⟨_, rfl⟩
  rw [← hTs] at q4 q3 tl6 tlG hDt hDc hBt ⊢
  obtain ⟨B, hBe⟩ : ∃ B, B = sbs η I.2.1 := ⟨_, rfl⟩
  rw [← hBe] at hDc hBc ⊢
  obtain ⟨q31, q32, q33⟩ := q3
  obtain ⟨q51, q52, q53⟩ := q5
  refine zc_108 (d := d + 27) hP ?_
  unfold v_108_0
  intro x1 hx1 x2 hx2 x3 hx3
  have ex1 := hx1 (by omega)
  have ex2 := hx2 (by omega)
  have ex3 := hx3 (by omega)
  obtain ⟨ct, hct⟩ : ∃ ct, ct = zg s (P + 34) x1 := ⟨_, rfl⟩
  obtain ⟨to, hto⟩ : ∃ to, to = zg s (P + 34) x2 := ⟨_, rfl⟩
  have ect : ct.toInt = (Ts.length : Int) := by rw [hct, zg_K, ex1, h1]; exact q4
  have eto : to.toInt = KI (s.2 (P + 34)) (6 * pc + 3) := by rw [hto, zg_K, ex2, h1]
  rw [← eto] at q31 q32 q33
  rw [← hct, ← hto]
  have P34 : ¬ P + 34 = P + 18 ∧ ¬ P + 34 = 78 ∧ ¬ P + 34 = 80 ∧ ¬ P + 34 = 198 ∧ ¬ P + 34 = 200 ∧ ¬ P + 34 = 202 ∧ ¬ P + 34 = 204 := by omega
  refine Zt.imp (Zt.mo (d := 9) (by omega) ((zi_102 (d := 0) hP ⟨by decide, by decide⟩ (SN_cq hP hN _) ⟨by omega, by omega⟩).sn hN)) ?_
  rintro v4 s5 ⟨⟨rfl, f1, f2, -, f4w, f5, f6z⟩, N5⟩
  have ewh : (s5.2 204 1).toInt = I.2.2.2.2 := by
    rw [f4w, zg_K, ex3, h1]
    exact q1
  refine ⟨rfl, ?_⟩
  have hfl0 : ((Ts.take 0).flatten.length : Int) = 0 := rfl
  refine ⟨fun b1 b2 b3 b4 u => b1 = a1 ∧ b2 = ct ∧ SNz u ∧ IFz P s u ∧ (u.2 204 1 = s5.2 204 1 ∧ u.2 204 2 = ct) ∧ ∃ i : Nat, b4.toInt = (i : Int) ∧ i ≤ Ts.length ∧ b3.toInt = to.toInt + ((Ts.take i).flatten.length : Int) ∧ (∀ i' : Nat, i ≤ i' → i' < 6 → (u.2 204 (3 + i')).toInt = 0) ∧ ∃ ws, IOd Dr Bd An ar P u (ts ++ ws) cs ms ∧ ((u.1 197 10).toInt = 0 → TLi ar η u (ts ++ ws) Ts i), fun _ _ _ b4 _ => ((Ts.length : Int) - b4.toInt).toNat, ⟨rfl, rfl, N5, IFz_4 hP f1 f2, ⟨rfl, f5⟩, 0, by decide, Nat.zero_le _, by rw [hfl0]; omega, fun i' _ hi' => f6z i' hi', [], by rw [List.append_nil]; exact IOd_4 hP f1 f2 hI, fun _ i' A hi' _ => absurd hi' (Nat.not_lt_zero _)⟩, ?_⟩
  rintro b1 b2 b3 b4 u ⟨e1, e2, Nu, Fu, ⟨u1', u2⟩, i, i1, i2, i3, i0', ws, Iu, i4⟩
  subst e1 e2
  have w22 : KI (u.2 (P + 22)) = ar := by
    rw [Fu.1 _ (by omega) (by omega) (by omega) (by omega) (by omega) (by omega) (by omega)]
    exact hA
  have r34 : u.2 (P + 34) = s.2 (P + 34) := Fu.1 _ P34.1 P34.2.1 P34.2.2.1 P34.2.2.2.1 P34.2.2.2.2.1 P34.2.2.2.2.2.1 P34.2.2.2.2.2.2
  have kw : ∀ (x : Int) (A : List Int), 18738 ≤ x → WDz P s x A → WDz P u x A := fun x A hx hw => WFz_wd Fu.2.1 (by omega) (Or.inr (Or.inr hx)) hw
  have Eu : (nX = 0 ∧ nY = 0) ∨ EQe ar P η u := by
    rcases hE with q | q
    · exact Or.inl q
    · exact Or.inr (EQe_f Fu.2.1 (Fu.1 76 (by omega) (by decide) (by decide) (by decide) (by decide) (by decide) (by decide)) q)
  have fin : (i = Ts.length ∨ ¬ (u.1 197 10).toInt = 0) → v_108_51 (fun j => Zt (d + 27 + 8) (wd2 P j) j) P b1 b2 b3 b4 u (fun v s' => v = none ∧ IFz P s s' ∧ ∃ (ws : List (List Int)) (us : List Cal), IOd Dr Bd An ar P s' (ts ++ ws) (cs ++ us) ms ∧ ((s'.1 197 10).toInt = 0 → ¬ 60 < B.length ∧ (∀ A ∈ Ts, ¬ 60 < (sbs η A).length ∧ ∀ q : Nat, q < (sbs η A).length → subT ar (sbs η A) q ∈ ts ++ ws) ∧ (B, I.2.2.2.2, Ts.map (sbs η)) ∈ cs ++ us)) := by
    intro hfin
    obtain ⟨tw, htw⟩ : ∃ tw, tw = ts ++ ws := ⟨_, rfl⟩
    rw [← htw] at Iu i4
    obtain ⟨⟨hT, nx, hc, hR⟩, ⟨⟨hnt, hnc, hnm⟩, ⟨hd0, hd1, hd2⟩, hSB, hFl⟩, hDN⟩ := id Iu
    obtain ⟨⟨n1, n2, n3⟩, r1, r2, r3⟩ := id hR
    unfold v_108_51
    intro x1' hx1'
    have ex1' := hx1' (by omega)
    have eah : (zg u (P + 34) x1').toInt = KI (s.2 (P + 34)) (6 * pc + 5) := by rw [zg_K, r34, ex1', h1]
    rw [← eah] at q51 q52 q53
    have hql := hk.2.1.1
    refine Zt.imp (Zt.mo (d := 9) (by omega) ((zi_87 (d := 0) hP w22 ha h24 hT (TGo_q hk) (hE_c Eu hk) ⟨q51, by omega⟩ (kw _ _ q51 q53)).sn Nu)) ?_
    rintro v2 s3 ⟨⟨pf, x4, rfl, g⟩, N3⟩
    rw [← hBe] at g
    refine ⟨x4, rfl, fun s5' hs5 => ?_⟩
    have f5' : s5'.1 = u.1 := by
      funext b q
      rw [hs5, zf_1]
      by_cases e : b = 75 ∧ q = 3
      · rw [if_pos e, e.1, e.2]
      · rw [if_neg e, pf.2.2 b q e]
    have w5 : ∀ r, ¬ r = P + 18 → s5'.2 r = u.2 r := fun r hr => by
      rw [hs5, zf_2]
      exact pf.1 r hr
    have wd5 : ∀ j : Nat, ((j : Int) < 18 ∨ 138 ≤ (j : Int)) → s5'.2 (P + 18) j = u.2 (P + 18) j := fun j hj => by
      rw [hs5, zf_2]
      exact pf.2.1 j hj
    have N5' : SNz s5' := SNz_2 (by rw [hs5, zf_2]) N3
    have F5 : IFz P s s5' := IFz_tr Fu ⟨fun r a _ _ _ _ _ _ => w5 r a, ⟨fun j hj => wd5 j (by omega), by rw [f5']; exact Int.le_refl _⟩, fun c q _ _ _ _ => by rw [f5']⟩
    have R5 : IRz ar P s5' nx tw cs ms := IRz_f (fun j j1 _ => wd5 j (by omega)) (by rw [f5']) (by rw [f5']; exact ⟨rfl, rfl, rfl, rfl⟩) ⟨w5 _ (by omega), w5 _ (by omega), w5 _ (by omega)⟩ hR
    have T5 : (s5'.1 75 3).toInt = 18 := by rw [f5']; exact hT
    have hwB' : ∀ i c, WDz P s3 i c → WDz P s5' i c := fun i c h j c' hj => by
      rw [hs5, zf_2]
      exact h j c' hj
    have bad : ∀ (p1 p2 p3 p4 p5 : Int32), (¬ (s5'.1 197 10).toInt = 0 ∨ Bd) → v_108_78 (fun j => Zt (d + 27 + 8) (wd2 P j) j) P p1 p2 p3 p4 p5 s5' (fun v s' => v = none ∧ IFz P s s' ∧ ∃ (ws : List (List Int)) (us : List Cal), IOd Dr Bd An ar P s' (ts ++ ws) (cs ++ us) ms ∧ ((s'.1 197 10).toInt = 0 → ¬ 60 < B.length ∧ (∀ A ∈ Ts, ¬ 60 < (sbs η A).length ∧ ∀ q : Nat, q < (sbs η A).length → subT ar (sbs η A) q ∈ ts ++ ws) ∧ (B, I.2.2.2.2, Ts.map (sbs η)) ∈ cs ++ us)) := fun _ _ _ _ _ hbd => by
      unfold v_108_78
      intro s11 hs11
      have F11 : ∀ c q, ¬ (c = 197 ∧ q = 10) → s11.1 c q = s5'.1 c q := fun c q hcq => by rw [hs11, zf_1, if_neg hcq]
      have e11 : s11.2 = s5'.2 := by rw [hs11, zf_2]
      have z11 : ¬ (s11.1 197 10).toInt = 0 := by
        rw [hs11, zf_1, if_pos ⟨rfl, rfl⟩]
        decide
      refine ⟨rfl, IFz_tr F5 ⟨fun r _ _ _ _ _ _ _ => by rw [e11], ⟨fun j _ => by rw [e11], by rw [F11 197 7 (by decide)]; exact Int.le_refl _⟩, fun c q a _ _ _ => F11 c q (fun z => a ⟨z.1, Or.inr z.2⟩)⟩, ws, [], ?_, fun z => absurd z z11⟩
      rw [← htw, List.append_nil]
      refine ⟨⟨by rw [F11 75 3 (by decide)]; exact T5, nx, ⟨hc.1, fun z => absurd z z11⟩, IRz_f (fun j _ _ => by rw [e11]) (F11 197 7 (by decide)) ⟨F11 198 2 (by decide), F11 200 2 (by decide), F11 202 2 (by decide), F11 (P + 26) 2 (fun z => by omega)⟩ ⟨by rw [e11], by rw [e11], by rw [e11]⟩ R5⟩, ⟨⟨hnt, hnc, hnm⟩, ⟨hd0, hd1, hd2⟩, fun z => absurd z z11, fun _ => ?_⟩, fun z => absurd z z11⟩
      rcases hbd with q | q
      · rw [f5'] at q
        exact hFl q
      · exact Or.inl q
    clear hs5 pf
    refine ⟨fun xn => bad _ _ _ _ _ (Or.inr ?_), fun x0 => ⟨fun z => ?_, fun zf => bad _ _ _ _ _ (Or.inl zf)⟩⟩
    · rcases g with g | ⟨-, -, -, q | q⟩
      · exact hBc g.2
      · rw [q] at xn
        omega
      · omega
    clear bad
    have z' : (u.1 197 10).toInt = 0 := by
      rw [← f5']
      exact z
    have h150 := hc.2 z'
    have ei : i = Ts.length := by
      rcases hfin with q | q
      · exact q
      · exact absurd z' q
    have hto' := i4 z'
    rw [ei] at hto' i0'
    obtain ⟨hB60, hB, hwB2, hpl2⟩ : ¬ 60 < B.length ∧ TQi ar B ∧ WDz P s3 x4.toInt B ∧ (x4 = zg u (P + 34) x1' ∨ x4.toInt = 18) := by
      rcases g with g | g
      · have := g.1
        omega
      · exact g
    have hwB := hwB' _ _ hwB2
    have hpl : x4.toInt = 18 ∨ (18738 ≤ x4.toInt ∧ x4.toInt ≤ 83000) := by
      rcases hpl2 with q | q
      · exact Or.inr (by rw [q]; exact ⟨q51, by omega⟩)
      · exact Or.inl q
    clear g hwB' hpl2 hwB2
    have hB0 := TQi_len hB
    have hBl := hB.2.1
    refine ⟨by omega, fun s6 hs6 => ?_⟩
    have l4 : (lim 204 : Int) = 9 := by decide +kernel
    have l0 : (lim 200 : Int) = 1510 := by decide +kernel
    have i0 : (0 : Int32).toInt = 0 := by decide
    have f6 : s6.1 = u.1 := by rw [hs6, zt_1]; exact f5'
    have r6 : ∀ r, ¬ r = 204 → s6.2 r = s5'.2 r := fun r hr => by rw [hs6, zt_o hr]
    have c60 : s6.2 204 0 = x4 := by rw [hs6, zt_in (by rw [l4, i0]; decide), zr_2, if_pos ⟨rfl, by rw [i0]; rfl⟩]
    have c6 : ∀ j, 0 < j → s6.2 204 j = u.2 204 j := fun j hj => by
      rw [hs6, zt_in (by rw [l4, i0]; decide), zr_2, if_neg (fun q => by have := q.2; rw [i0] at this; omega), w5 204 (by omega)]
    have N6 : SNz s6 := by
      rw [hs6]
      refine SNz_zt N5' (fun _ => ?_)
      show -1000 ≤ x4.toInt ∧ x4.toInt ≤ 1000000000
      omega
    have F6 : IFz P s s6 := IFz_tr F5 (IFz_4 hP (by rw [f6, f5']) r6)
    have R6 : IRz ar P s6 nx tw cs ms := IRz_f (fun j _ _ => by rw [r6 _ (by omega)]) (by rw [f6, f5']) (by rw [f6, f5']; exact ⟨rfl, rfl, rfl, rfl⟩) ⟨r6 _ (by decide), r6 _ (by decide), r6 _ (by decide)⟩ R5
    have wB6 : WDz P s6 x4.toInt B := fun j c hj => by
      rw [r6 _ (by omega)]
      exact hwB j c hj
    have wu6 : ∀ j : Nat, 9618 ≤ (j : Int) → s6.2 (P + 18) j = u.2 (P + 18) j := fun j hj => by rw [r6 _ (by omega), wd5 j (by omega)]
    clear hs6
    obtain ⟨Y, hY⟩ : ∃ Y : Cal, Y = (B, I.2.2.2.2, Ts.map (sbs η)) := ⟨_, rfl⟩
    have A6 : KI (s6.2 (P + 22)) = ar := by
      rw [r6 _ (by omega), w5 _ (by omega)]
      exact w22
    have e60 : (s6.2 204 0) = x4 := by rw [c60]
    have fr : FRd ar P s6 tw Y := by
      rw [hY]
      refine ⟨hB, by rw [e60]; omega, by rw [e60]; exact wB6, by rw [c6 1 (by decide), u1']; exact ewh, ⟨?_, by rw [List.length_map]; exact tl6⟩, fun i' A' hA' => ?_, fun i' p1 p2 => ?_⟩
      · rw [show (0 : Int) + 2 = ((2 : Nat) : Int) by decide, KI_n, c6 2 (by decide), u2, List.length_map]
        exact ect
      · rw [List.getElem?_map] at hA'
        obtain ⟨A0, hA0, rfl⟩ := Option.map_eq_some_iff.mp hA'
        have hil := (List.getElem?_eq_some_iff.mp hA0).1
        obtain ⟨-, j, j1, j2⟩ := hto' i' A0 hil hA0
        refine ⟨j, j1, ?_⟩
        rw [show (0 : Int) + 3 + (i' : Int) = ((3 + i' : Nat) : Int) by omega, KI_n, c6 _ (by omega), j2, r6 198 (by decide), w5 198 (by omega)]
      · rw [List.length_map] at p1
        rw [show (0 : Int) + 3 + (i' : Int) = ((3 + i' : Nat) : Int) by omega, KI_n, c6 _ (by omega)]
        exact i0' i' p1 p2
    refine Zt.imp (Zt.mo (d := 18) (by omega) (zi_103 (d := 0) (a2 := 10) (e := 200) (k := 10) (nx := nx) (ts := tw) (L := cs) (Y := Y) hP (Or.inl ⟨rfl, rfl⟩) A6 ha (by decide) R6.2.1 (by omega) hnt R6.2.2.1.1 (by omega) (fun c Z hZ => (R6.2.2.1.2 c Z hZ).1) fr)) ?_
    rintro v7 s8 ⟨hs8, x9, rfl, hx9⟩
    subst hs8
    unfold v_108_126
    have told : ∀ A ∈ Ts, ¬ 60 < (sbs η A).length ∧ ∀ q : Nat, q < (sbs η A).length → subT ar (sbs η A) q ∈ tw := fun A hAm => by
      obtain ⟨i', hi'⟩ := List.getElem?_of_mem hAm
      exact (hto' i' A (List.getElem?_eq_some_iff.mp hi').1 hi').1
    refine ⟨x9, rfl, fun x90 => ⟨rfl, F6, ws, [], ?_, fun _ => ⟨hB60, by rw [← htw]; exact told, ?_⟩⟩, fun x90 => ?_⟩
    · rw [← htw, List.append_nil]
      exact ⟨⟨by rw [f6]; exact hT, nx, by rw [f6]; exact hc, R6⟩, ⟨⟨hnt, hnc, hnm⟩, ⟨hd0, hd1, hd2⟩, by rw [f6]; exact hSB, by rw [f6]; exact hFl⟩, fun _ => DNc_s (by rw [r6 200 (by decide), w5 200 (by omega)]) (hDN z')⟩
    · rw [List.append_nil, ← hY]
      rcases hx9 with q | q
      · exact absurd q.1 x90
      · exact q.2
    have hnew : ¬ Y ∈ cs := by
      rcases hx9 with q | q
      · exact q.2
      · exact absurd x90 q.1
    have A8 : KI (s8.2 (P + 22)) = ar := by
      rw [r6 _ (by omega), w5 _ (by omega)]
      exact w22
    refine Zt.imp (Zt.mo (d := 9) (by omega) (zs_83 (d := 0) (A := B) hP A8 ha hB.1 (by omega) (by omega) wB6)) ?_
    rintro v10 s11 ⟨hs11, x12, rfl, ex12⟩
    subst hs11
    refine ⟨x12, rfl, fun x13 hx13 => ?_⟩
    have e13 := hx13 (by omega)
    refine Zt.imp (Zt.mo (d := 9) (by omega) ((zi_107 (d := 0) (A := B) (nx := nx) hP R6.1.1 ⟨by omega, by omega⟩ (by omega) hBl (by omega) (by omega) wB6).sn N6)) ?_
    rintro v14 s15 ⟨⟨k1, k2, k3, k4, x16, rfl, k5, k6⟩, N15⟩
    refine ⟨x16, rfl, by omega, fun s17 hs17 => ?_⟩
    have N17 : SNz s17 := by
      rw [hs17]
      refine SNz_zt N15 (fun _ => ?_)
      show -1000 ≤ x16.toInt ∧ x16.toInt ≤ 1000000000
      omega
    have f17 : s17.1 = s15.1 := by rw [hs17, zt_1]
    have r17 : ∀ r, ¬ r = 204 → s17.2 r = s15.2 r := fun r hr => by rw [hs17, zt_o hr]
    have c17 : ∀ j, s17.2 204 j = if j = 0 then x16 else s11.2 204 j := fun j => by
      rw [hs17, zt_in (by rw [l4, i0]; decide), zr_2, i0]
      by_cases e : j = 0
      · rw [if_pos ⟨rfl, e⟩, if_pos e]
      · rw [if_neg (fun q => e q.2), if_neg e, k1 204 (by omega)]
    clear hs17
    have s200 : (s11.1 200 2).toInt = 10 * (cs.length : Int) := R6.2.2.1.1
    -- nine cells
    refine ⟨fun _ _ _ _ _ b6 w => SNz w ∧ (∀ b q, ¬ (b = 200 ∧ q = 2) → w.1 b q = s15.1 b q) ∧ (∀ r, ¬ r = 200 → w.2 r = s17.2 r) ∧ ∃ q : Nat, b6.toInt = (q : Int) ∧ q ≤ 9 ∧ (w.1 200 2).toInt = 10 * (cs.length : Int) + (q : Int) ∧ ∀ j : Nat, w.2 200 j = if 10 * cs.length ≤ j ∧ j < 10 * cs.length + q then s17.2 204 (j - 10 * cs.length) else s17.2 200 j, fun _ _ _ _ _ b6 _ => (9 - b6.toInt).toNat, ⟨N17, fun b q _ => by rw [f17], fun _ _ => rfl, 0, by decide, by decide, by rw [f17, k2 200 2 (by decide), s200]; omega, fun j => by rw [if_neg (fun q => by omega)]⟩, ?_⟩
    rintro t1 t2 t3 t4 t5 t6 w ⟨Nw, w1, w2, q, p1, p2, p3, p4⟩
    unfold v_108_108
    refine ⟨fun y s18 hs18 => ?_, fun y => ⟨SN_q 204 Nw _, fun s4 hs4 x5 hx5 => ?_⟩⟩
    rotate_left
    · have ex5 := hx5 (by omega)
      have hsz : (w.1 200 2).toInt < (lim 200 : Int) := by rw [l0]; omega
      refine ⟨⟨by rw [hs4]; exact SNz_za Nw (fun _ => SN_g Nw (by decide) _), fun b q hb => by rw [hs4, za_o hb]; exact w1 b q hb, fun r hr => by rw [hs4, za_r hr]; exact w2 r hr, q + 1, by omega, by omega, ?_, fun j => ?_⟩, by dsimp only; omega⟩
      · rw [hs4, za_n (by omega) (by omega), if_pos hsz]
        omega
      · rw [hs4, za_c hsz, p3]
        by_cases ej : j = 10 * cs.length + q
        · rw [if_pos ⟨rfl, by omega⟩, if_pos ⟨by omega, by omega⟩]
          unfold zg
          rw [if_pos (by omega), w2 204 (by decide), show t6.toInt.toNat = j - 10 * cs.length by omega]
        · rw [if_neg (fun q' => ej (by have := q'.2; omega)), p4]
          by_cases qq : 10 * cs.length ≤ j ∧ j < 10 * cs.length + q
          · rw [if_pos qq, if_pos ⟨qq.1, by omega⟩]
          · rw [if_neg qq, if_neg (fun q' => qq ⟨q'.1, by omega⟩)]
    have eq9 : q = 9 := by omega
    subst eq9
    have hsz : (w.1 200 2).toInt < (lim 200 : Int) := by rw [l0]; omega
    have f18 : ∀ b q, ¬ (b = 200 ∧ q = 2) → s18.1 b q = s15.1 b q := fun b q hb => by rw [hs18, za_o hb]; exact w1 b q hb
    have n18 : (s18.1 200 2).toInt = 10 * (cs.length : Int) + 10 := by
      rw [hs18, za_n (by omega) (by omega), if_pos hsz]
      omega
    have r18 : ∀ r, ¬ r = 200 → s18.2 r = s17.2 r := fun r hr => by rw [hs18, za_r hr]; exact w2 r hr
    have c18 : ∀ j, j < 10 * cs.length + 9 → s18.2 200 j = if 10 * cs.length ≤ j then s17.2 204 (j - 10 * cs.length) else s17.2 200 j := fun j hj => by
      rw [hs18, za_c hsz, if_neg (fun q' => by have := q'.2; omega), p4]
      by_cases qq : 10 * cs.length ≤ j
      · rw [if_pos ⟨qq, by omega⟩, if_pos qq]
      · rw [if_neg (fun q' => qq q'.1), if_neg qq]
    have d18 : s18.2 200 (10 * cs.length + 9) = 0 := by rw [hs18, za_c hsz, if_pos ⟨rfl, by omega⟩]
    clear hs18
    refine Zt.imp (Zt.mo (d := 18) (by omega) (zi_104 (d := 0) (ty := tw.length) (ca := cs.length + 1) (me := ms.length) hP (by rw [f18 198 2 (by decide), k2 198 2 (by decide)]; exact R6.2.1.1) (by rw [n18]; omega) (by rw [f18 202 2 (by decide), k2 202 2 (by decide)]; exact R6.2.2.2.1))) ?_
    rintro v2' s19 ⟨rfl, j1, j2, j3, j4⟩
    unfold v_108_126
    have fo : ∀ b q, ¬ (b = 197 ∧ (q = 7 ∨ q = 10)) → ¬ (b = 200 ∧ q = 2) → s19.1 b q = s11.1 b q := fun b q h1 h2 => by rw [j2 b q (fun w => h1 ⟨w.1, Or.inr w.2⟩), f18 b q h2, k2 b q (fun w => h1 ⟨w.1, Or.inl w.2⟩)]
    have f7 : (s19.1 197 7).toInt = nx + (B.length : Int) := by
      rw [j2 197 7 (by decide), f18 197 7 (by decide)]
      exact k3
    have ro : ∀ r, ¬ r = P + 18 → ¬ r = 200 → ¬ r = 204 → s19.2 r = s11.2 r := fun r h1 h2 h3 => by rw [j1, r18 r h2, r17 r h3, k1 r h1]
    have w19 : s19.2 (P + 18) = s15.2 (P + 18) := by rw [j1, r18 _ (by omega), r17 _ (by omega)]
    have hfr : ∀ j : Nat, 9618 ≤ (j : Int) → (j : Int) < nx → s19.2 (P + 18) j = s11.2 (P + 18) j := fun j _ hj => by rw [w19, k4 j (Or.inl hj)]
    have e11 : (s11.1 197 7).toInt = nx := R6.1.1
    have hfu : ∀ j : Nat, 9618 ≤ (j : Int) → (j : Int) < nx → s19.2 (P + 18) j = u.2 (P + 18) j := fun j q1 q2 => by rw [hfr j q1 q2, wu6 j q1]
    have c19 : ∀ j, j < 10 * cs.length + 9 → s19.2 200 j = if 10 * cs.length ≤ j then s17.2 204 (j - 10 * cs.length) else s11.2 200 j := fun j hj => by rw [j1, c18 j hj, r17 200 (by decide), k1 200 (by omega)]
    have hlen : (cs ++ [Y]).length = cs.length + 1 := by rw [List.length_append, List.length_singleton]
    have o198 : ∀ j : Nat, j < tw.length → s19.2 198 j = s11.2 198 j := fun j _ => by rw [ro 198 (by omega) (by decide) (by decide)]
    have gm := IRm_f (ws := []) hfr (show nx ≤ nx + (B.length : Int) by omega) (fo 202 2 (by decide) (by decide)) (ro 202 (by omega) (by decide) (by decide)) o198 (fo (P + 26) 2 (fun z => by omega) (fun z => by omega)) R6.2.2.2
    rw [List.append_nil] at gm
    have z18 : (s18.1 197 10).toInt = 0 := by
      rw [f18 197 10 (by decide), k2 197 10 (by decide), f6]
      exact z'
    refine ⟨rfl, rfl, IFz_tr F6 ⟨fun r a1 _ _ _ a5 _ a7 => ro r a1 a5 a7, ⟨fun j hj => by rw [w19, k4 j (by omega)], by omega⟩, fun c q a1 _ a3 _ => fo c q a1 a3⟩, ws, [Y], ?_, fun _ => ⟨hB60, by rw [← htw]; exact told, by rw [← hY]; exact List.mem_append_right _ (List.mem_singleton.mpr rfl)⟩⟩
    rw [← htw]
    refine ⟨⟨by rw [fo 75 3 (by decide) (by decide), f6]; exact hT, nx + (B.length : Int), ⟨by rw [hlen]; omega, fun zz => by rw [hlen]; have := (j3 zz).2; omega⟩, ⟨f7, by omega, by rw [hlen]; omega⟩, IRt_f hfr (by omega) (fo 198 2 (by decide) (by decide)) (ro 198 (by omega) (by decide) (by decide)) R6.2.1, ⟨by rw [j2 200 2 (by decide), n18, hlen]; omega, fun c Z hZ => ?_⟩, gm⟩, ⟨⟨hnt, nd_snoc hnc hnew, hnm⟩, ⟨hd0, fun Z hZ => ?_, hd2⟩, fun _ => hSB z', fun zz => Or.inr (by have := j4 z18 zz; rw [hlen]; omega)⟩, fun _ => ?_⟩
    rotate_left 2
    · refine DNc_c (s := u) (fun c hc' => ?_) ?_ (hDN z')
      · rw [KI_p (by omega), KI_p (by omega), c19 _ (by omega), if_neg (by omega), r6 200 (by decide), w5 200 (by omega)]
      · rw [show 10 * (cs.length : Int) + 9 = ((10 * cs.length + 9 : Nat) : Int) by omega, KI_n, j1, d18]
        decide
    rotate_left
    · rcases List.mem_append.mp hZ with q | q
      · exact hd1 Z q
      · rw [List.mem_singleton.mp q, hY]
        exact hDc
    have hcl := (List.getElem?_eq_some_iff.mp hZ).1
    rw [hlen] at hcl
    by_cases ec : c = cs.length
    · subst ec
      rw [List.getElem?_concat_length] at hZ
      rw [← Option.some.inj hZ]
      have cc : ∀ q : Nat, q < 9 → KI (s19.2 200) (10 * (cs.length : Int) + (q : Int)) = (s17.2 204 q).toInt := fun q hq => by rw [show 10 * (cs.length : Int) + (q : Int) = ((10 * cs.length + q : Nat) : Int) by omega, KI_n, c19 _ (by omega), if_pos (by omega), show 10 * cs.length + q - 10 * cs.length = q by omega]
      have cc0 := cc 0 (by decide)
      rw [show 10 * (cs.length : Int) + ((0 : Nat) : Int) = 10 * (cs.length : Int) by omega, c17, if_pos rfl] at cc0
      have cc1 : KI (s19.2 200) (10 * (cs.length : Int) + 1) = (s17.2 204 1).toInt := cc 1 (by decide)
      rw [c17, if_neg (by decide)] at cc1
      have cc2 : KI (s19.2 200) (10 * (cs.length : Int) + 2) = (s17.2 204 2).toInt := cc 2 (by decide)
      rw [c17, if_neg (by decide)] at cc2
      have cc9 : KI (s19.2 200) (10 * (cs.length : Int) + 9) = 0 := by
        rw [show 10 * (cs.length : Int) + 9 = ((10 * cs.length + 9 : Nat) : Int) by omega, KI_n, j1, d18]
        decide
      obtain ⟨-, -, -, f4', ⟨f5, f5''⟩, f6', f7'⟩ := id fr
      refine ⟨⟨?_, by rw [cc1]; exact f4', ⟨?_, f5''⟩, fun i' A' hA' => ?_, fun i' p1' p2' => ?_⟩, by rw [cc9]; decide⟩
      · rw [cc0, k5, hY]
        exact ⟨hB, ⟨by omega, by show _ + (B.length : Int) ≤ _; omega⟩, fun j c hj => by rw [w19]; exact k6 j c hj⟩
      · rw [cc2, ← f5]
        exact (KI_n (i := 2)).symm
      · have hil := (List.getElem?_eq_some_iff.mp hA').1
        obtain ⟨j, q1', q2'⟩ := f6' i' A' hA'
        refine ⟨j, q1', ?_⟩
        rw [show 10 * (cs.length : Int) + 3 + (i' : Int) = 10 * (cs.length : Int) + ((3 + i' : Nat) : Int) by omega, cc (3 + i') (by omega), c17, if_neg (by omega), ro 198 (by omega) (by decide) (by decide), ← q2', show (0 : Int) + 3 + (i' : Int) = ((3 + i' : Nat) : Int) by omega, KI_n]
      · have := f7' i' p1' p2'
        rw [show (0 : Int) + 3 + (i' : Int) = ((3 + i' : Nat) : Int) by omega, KI_n] at this
        rw [show 10 * (cs.length : Int) + 3 + (i' : Int) = 10 * (cs.length : Int) + ((3 + i' : Nat) : Int) by omega, cc (3 + i') (by omega), c17, if_neg (by omega)]
        exact this
    · rw [List.getElem?_append_left (by omega)] at hZ
      have old := R6.2.2.1.2 c Z hZ
      have e9 : KI (s19.2 200) (10 * (c : Int) + 9) = KI (s11.2 200) (10 * (c : Int) + 9) := by rw [KI_p (by omega), KI_p (by omega), c19 _ (by omega), if_neg (by omega)]
      have g := CAc_f (ws := []) hfr (show nx ≤ nx + (B.length : Int) by omega) (by omega) (fun j j1' j2' => by rw [c19 j (by omega), if_neg (by omega)]) o198 old.1
      rw [List.append_nil] at g
      exact ⟨g, by rw [e9]; exact old.2⟩
  unfold v_108_29
  refine ⟨fun y => fin (Or.inl (by omega)), fun y => ⟨fun z => fin (Or.inr z), fun z x1' hx1' => ?_⟩⟩
  have ex1' := hx1' (by omega)
  have hil : i < Ts.length := by omega
  obtain ⟨A, hAi⟩ : ∃ A, Ts[i]? = some A := ⟨_, List.getElem?_eq_getElem hil⟩
  have hAG := tlG A (List.mem_of_getElem? hAi)
  have hAl := hAG.2.1.1
  have hflt := fl_take hAi
  have hfle := fl_le Ts (i + 1)
  have hwA : WDz P u b3.toInt A := by
    rw [i3]
    exact kw _ _ (by omega) (WDz_fl Ts i A _ q33 hAi)
  have l4 : (lim 204 : Int) = 9 := by decide +kernel
  refine Zt.imp (Zt.mo (d := 27) (by omega) ((zi_106 (d := 0) (η := η) hP w22 ha h24 (TGo_q hAG) (hE_c Eu hAG) ⟨by omega, by omega⟩ hwA Iu z (hDt A (List.mem_of_getElem? hAi)) (hBt A (List.mem_of_getElem? hAi))).sn Nu)) ?_
  rintro v2 s3 ⟨⟨AF, O3, ws', x4, I3, rfl, bx, mx⟩, N3⟩
  refine ⟨x4, rfl, by omega, fun s5' hs5 => ?_⟩
  have f5' : s5'.1 = s3.1 := by rw [hs5, zt_1]
  have r5' : ∀ r, ¬ r = 204 → s5'.2 r = s3.2 r := fun r hr => by rw [hs5, zt_o hr]
  have c5' : ∀ j, s5'.2 204 j = if j = 3 + i then x4 else u.2 204 j := fun j => by
    rw [hs5, zt_in (by rw [l4]; omega), zr_2]
    by_cases e : j = 3 + i
    · rw [if_pos ⟨rfl, by omega⟩, if_pos e]
    · clear mx
      rw [if_neg (fun q => by have := q.2; omega), if_neg e, AF.1 204 (by omega) (by decide)]
  have N5' : SNz s5' := by
    rw [hs5]
    refine SNz_zt N3 (fun _ => ?_)
    show -1000 ≤ x4.toInt ∧ x4.toInt ≤ 1000000000
    omega
  clear hs5
  have A5 : KI (s5'.2 (P + 22)) = ar := by
    rw [r5' _ (by omega), AF.1 _ (by omega) (by omega)]
    exact w22
  have hwA5 : WDz P s5' b3.toInt A := fun j c hj => by
    rw [r5' _ (by omega)]
    exact WFz_wd AF.2.1 (by omega) (Or.inr (Or.inr (by omega))) hwA j c hj
  refine Zt.imp (Zt.mo (d := 9) (by omega) (zs_83 (d := 0) (A := A) hP A5 ha hAG.1 (by omega) (by omega) hwA5)) ?_
  rintro v6 s7 ⟨hs7, x8, rfl, ex8⟩
  subst hs7
  refine ⟨x8, rfl, fun x9 hx9 => ?_⟩
  have ex9 := hx9 (by omega)
  refine ⟨⟨rfl, rfl, N5', IFz_tr Fu (IFz_tr (AFz_i AF) (IFz_4 hP f5' r5')), ⟨by rw [c5', if_neg (by omega)]; exact u1', by rw [c5', if_neg (by omega)]; exact u2⟩, i + 1, by omega, by omega, by omega, fun i' p1 p2 => by rw [c5', if_neg (by omega)]; exact i0' i' (by omega) p2, ws ++ ws', ?_, fun z' i' A' hi' hA' => ?_⟩, by dsimp only; omega⟩
  · rw [← List.append_assoc]
    exact IOd_4 hP f5' r5' I3
  rw [f5'] at z'
  obtain ⟨m1, m2, j, m3, m4⟩ := mx z'
  rw [← List.append_assoc, c5', r5' 198 (by decide)]
  by_cases e : i' = i
  · subst e
    rw [hAi] at hA'
    rw [← Option.some.inj hA', if_pos rfl]
    exact ⟨⟨m1, m2⟩, j, m3, m4⟩
  · rw [if_neg (by omega)]
    obtain ⟨⟨t1, t2⟩, j', t3, t4⟩ := i4 z i' A' (by omega) hA'
    have hj' := (List.getElem?_eq_some_iff.mp t3).1
    refine ⟨⟨t1, fun q hq => List.mem_append_left _ (t2 q hq)⟩, j', by rw [List.getElem?_append_left hj']; exact t3, ?_⟩
    rw [t4]
    rw [KI_n, KI_n, O3 j' hj']
end ZVJ
