/-! ===== the reference: typeMethod ===== -/
section ZUM
variable {K L W ar kd : Int → Int} {n lo hi B b A0 x y β0 β1 : Int} {TN Ls : List Int} {S : Scp} {s u : yS} {d m g : Nat} {a1 a2 a3 a4 a5 : Int32} {z z' y0 t c l w w0 e e0 a : Int} {R : Int × List Int}
theorem EF0_any {D D' : Int → Prop} {A1 : Int} {s s' : yS} (h : EF0 D B A0 s s') (hr : ∀ q j, (q = 231 ∨ q = 232) → s'.2.1 q j = s.2.1 q j) (hA : ∀ j : Nat, (j : Int) < A1 → s'.2.1 264 j = s.2.1 264 j) : EF0 D' B A1 s s' := ⟨h.1, h.2.1, h.2.2.1, h.2.2.2.1, h.2.2.2.2.1, fun q j hq _ => hr q j hq, hA⟩
theorem WFr_73 {s s' : yS} {T w : Int} (h : s'.2 = s.2 ∧ ∀ k, ¬ k = 73 → ¬ k = 74 → s'.1 k = s.1 k) : WFr T w s s' := ⟨fun k _ _ _ _ _ q1 q2 => h.2 k q1 q2, by rw [h.1], fun _ _ _ => by rw [h.1], fun _ _ => by rw [h.1], fun _ _ _ _ => by rw [h.1], fun _ _ _ _ => by rw [h.1]⟩
theorem fm_tk {α : Type} {f : α → List Int} {l : List α} {k : Nat} {v : α} (h : l[k]? = some v) : ffs ((l.take (k + 1)).flatMap f) = if ffs ((l.take k).flatMap f) = 0 then ffs (f v) else ffs ((l.take k).flatMap f) := by
  rw [List.take_succ, h, List.flatMap_append, ffs_app]
  congr 2
  show (f v ++ []) = f v
  rw [List.append_nil]
theorem fm_take {α : Type} {f : α → List Int} {l : List α} {k : Nat} (h : ¬ ffs ((l.take k).flatMap f) = 0) : ffs (l.flatMap f) = ffs ((l.take k).flatMap f) := by
  have e1 : l.flatMap f = (l.take k).flatMap f ++ (l.drop k).flatMap f := by rw [← List.flatMap_append, List.take_append_drop]
  rw [e1, ffs_app, if_neg h]
theorem exC_mR {Q : Int → Int × List Int} {O : List Int} {x : Nat × Nat × List (List Int)} (h1 : exN K L (a + 1) = x.1 ∧ NM K L (a + 1) = x.2.1) (h2 : ffs ((exY K L (a + 1)).map (fun y => (tlT K L (cdOf W S.1 S.2.1 TN) ar 10 y).1)) = 0) (h3 : ffs ((exY K L (a + 1)).flatMap (fun y => slG K L W ar (mvD K L W ar kd TN Ls) (Bfd K L W ar TN Ls) S.2.2.1 TN S.1 S.2.1 y)) = 0) : exC K L W ar kd TN Ls S Q (a + 1) O x = mR K L W ar kd TN Ls S Q (exE K L W ar TN S O (a + 1)) a x := by
  unfold exC mR exB
  rw [if_pos h1, ffs_app, ffs_app, if_pos h2, if_pos h3, exP_ffs]
theorem exC_f {Q : Int → Int × List Int} {O : List Int} {x : Nat × Nat × List (List Int)} {F : Int} (h1 : exN K L (a + 1) = x.1 ∧ NM K L (a + 1) = x.2.1) (hF : ¬ F = 0) (h2 : ffs ((exY K L (a + 1)).map (fun y => (tlT K L (cdOf W S.1 S.2.1 TN) ar 10 y).1)) = F ∨ (ffs ((exY K L (a + 1)).map (fun y => (tlT K L (cdOf W S.1 S.2.1 TN) ar 10 y).1)) = 0 ∧ ffs ((exY K L (a + 1)).flatMap (fun y => slG K L W ar (mvD K L W ar kd TN Ls) (Bfd K L W ar TN Ls) S.2.2.1 TN S.1 S.2.1 y)) = F)) : exC K L W ar kd TN Ls S Q (a + 1) O x = (F, []) := by
  unfold exC exB
  rw [if_pos h1, ffs_app, ffs_app]
  rcases h2 with h2 | ⟨h2, h3⟩
  · rw [h2, if_neg hF, if_neg hF, if_neg hF]
  · rw [h2, if_pos rfl, h3, if_neg hF, if_neg hF]
theorem yT_tk0 {z z' t : Int} (h : yT K L B s m z z' t) : (s.2.1 222 z.toNat).toInt = B + t := by
  cases m with
  | zero => exact h.elim
  | succ m => exact h.2.2.1
set_option maxHeartbeats 8000000 in
/-- typeMethod -/
theorem x_226 {Φ0 : yS → Prop} (hst : ∀ u u', CFq z y0 A0 (u.1 65).toInt u u' → (u.1 65).toInt ≤ (u'.1 65).toInt → Φ0 u → Φ0 u') (hz0 : 0 ≤ z) (hW : EWd K L W ar kd TN Ls n lo hi B b β0 β1 S) (hm : m ≤ 10) (ih : E217 K L W ar kd TN Ls n B b A0 x y β0 β1 S m) (hI : EIn K L W ar kd TN Ls n B b A0 x y β0 β1 S s) (h1 : a1.toInt = e) (he0 : 0 ≤ e) (hPt : ePt K L B s m (eT K L B s m) e0 e z' a) (h40 : ¬ K (a + 1) = 40) (hb9 : K (a + 2) = 91 ∨ K (a + 2) = 40) (hPO : POk K L m a) (hE : ∀ (d : Nat) (q : Int32), q.toInt = e0 → Par d 217 [.ref 213, .int q] s (EPq K L ar TN Ls B A0 β0 β1 S z y0 w0 R Φ0 s)) (hy : y0 ≤ e) (hz : z ≤ e) (hw0 : 0 ≤ w0) (hw : w0 + (aPt K L a - (a + 1)) ≤ w) (ha0 : 0 ≤ a) (hn : aPt K L a ≤ n) (hD : ∀ v, a + 1 ≤ v → v < aPt K L a → nsD K L Ls v) (hA : (s.1 65).toInt + w ≤ 100000) : Par d 226 [.ref 213, .int a1] s (EPq K L ar TN Ls B A0 β0 β1 S z z' w (if R.1 = 0 then exM K L W ar kd TN Ls S (exE6 K L W ar kd TN Ls S m) a R.2 else R) (fun u => Φ0 u ∧ ePt K L B u m (eC K L W ar kd TN Ls B β0 β1 S A0 (u.1 65).toInt u m) e0 e z' a ∧ cTs K L W ar TN β0 β1 S A0 (u.1 65).toInt u e z' a) s) := by
  cases d with
  | zero => exact Par_0
  | succ d =>
    obtain ⟨Φ, hΦ⟩ : ∃ Φ : yS → Prop, Φ = (fun u => Φ0 u ∧ ePt K L B u m (eC K L W ar kd TN Ls B β0 β1 S A0 (u.1 65).toInt u m) e0 e z' a ∧ cTs K L W ar TN β0 β1 S A0 (u.1 65).toInt u e z' a) := ⟨_, rfl⟩
    rw [← hΦ]
    have hWs := hW
    obtain ⟨hP, -, hSP, hB, hb⟩ := hWs
    obtain ⟨ha, h24⟩ := PR_ar hP
    have hnT := PR_nT hP
    have hc24 := hP.2.2.1.1
    have h227 := hPt.2.1
    obtain ⟨⟨h221, h222⟩, h230, y1, zt, ⟨zt0, ztN, zty⟩, h229, hzt, zmo, hAr, hSw⟩ := ePt_m hPt h40 hb9
    obtain ⟨-, -, po3⟩ := id hPO
    obtain ⟨hK1, hT91, hOk, -⟩ := po3 h40
    have hOk := hOk hb9
    obtain ⟨po1, -, poT, poM⟩ := POk_o hm hPO
    obtain ⟨poM1, poM2⟩ := poM h40 hb9
    have hm1 : (mO K L (a + 1)).1 = 0 := by
      rcases hb9 with q | q
      · rw [(hT91 q).2.2]
      · unfold mO
        rw [show a + 1 + 1 = a + 2 by omega, if_neg (by omega)]
    have hLa1 := hP.1.1.2.2 (a + 1) (by omega) (by omega)
    obtain ⟨Nt, hNt⟩ : ∃ Nt, Nt = exN K L (a + 1) := ⟨_, rfl⟩
    obtain ⟨Q, hQ⟩ : ∃ Q, Q = exE6 K L W ar kd TN Ls S m := ⟨_, rfl⟩
    -- the TYPES: parse, order
    have hTk : ∀ j, j < Nt → (p_t K L m false (0, uS (nxT K L) (a + 3) j)).1 = 0 ∧ a + 3 ≤ uS (nxT K L) (a + 3) j ∧ uS (nxT K L) (a + 3) j < nxT K L (uS (nxT K L) (a + 3) j) ∧ nxT K L (uS (nxT K L) (a + 3) j) < (mO K L (a + 1)).2 ∧ ∀ i, i < j → nxT K L (uS (nxT K L) (a + 3) i) < uS (nxT K L) (a + 3) j := fun j hj => by
      rw [hNt] at hj
      have h91 : K (a + 2) = 91 := by
        unfold exN at hj
        rw [show a + 1 + 1 = a + 2 by omega] at hj
        by_cases q : K (a + 2) = 91
        · exact q
        · rw [if_neg q] at hj
          omega
      have eN : exN K L (a + 1) = NT K L (a + 2) := by
        unfold exN
        rw [show a + 1 + 1 = a + 2 by omega, if_pos h91]
      rw [eN] at hj
      obtain ⟨q1, q2, q3, -⟩ := poT h40 h91 j hj
      exact ⟨(hT91 h91).2.1 j hj, q1, q2, q3, fun i hi => (poT h40 h91 i (by omega)).2.2.2 j hi hj⟩
    refine pb_226 ?_
    unfold ub_226_0
    rw [h1]
    intro _
    refine Par.imp (hE d _ h227) ?_
    rintro v2 s1 ⟨rfl, p1, p2, p2n, p3⟩
    refine ⟨rfl, fun w1 => ?_, fun w1 => ?_⟩
    · have hR0 : R.1 = 0 := by omega
      rw [if_pos hR0]
      obtain ⟨q1, q2, q3, q4, q5⟩ := p3 hR0
      have h81 : (s1.1 8).toInt = 0 := by omega
      obtain ⟨c, A', eA⟩ : ∃ c A', R.2 = c :: A' := by
        cases hR2 : R.2 with
        | nil =>
          rw [hR2] at q4
          exact absurd rfl (isR_ne q4.2.2.2.2.1)
        | cons a l => exact ⟨a, l, rfl⟩
      rw [eA] at q4
      rw [eA, ← hQ]
      obtain ⟨RM, hRM⟩ : ∃ RM, RM = exM K L W ar kd TN Ls S Q a (c :: A') := ⟨_, rfl⟩
      rw [← hRM]
      -- from findHead on
      have f33 : ∀ (b2 : Int32) (co : Int) (O' : List Int) (l : Int) (v : yS), EF0 (nsD K L Ls) B A0 s v → EFl s v → (∀ q j, q < 264 → v.2.1 q j = s1.2.1 q j) → (v.1 8).toInt = 0 → v.1 65 = s1.1 65 → TYp ar (TN.length : Int) β0 β1 (S.2.1.length : Int) (S.1.length : Int) v b2.toInt l (co :: O') → ownT S.2.2.1 (c :: A') = co :: O' → 0 ≤ co ∧ co < (TN.length : Int) → EFl s1 v → ub_226_33 (Par d) a1 b2 v (EPq K L ar TN Ls B A0 β0 β1 S z z' w RM Φ s) := by
        intro b2 co O' l v v1 v2 v3 v4 v5 v6 eO hco v7
        have hIv := EIn_f hP v1 v2 hI
        have hv100 := hIv.2.2.1.2.1
        have hvA := hIv.2.2.1.1
        have rM : RM = if soD K L W kd TN Ls co (W (a + 1)) < 0 then (2 + 16 * L (a + 1), []) else exC K L W ar kd TN Ls S Q (a + 1) (co :: O') (hdd K L W ar TN Ls (soD K L W kd TN Ls co (W (a + 1))).toNat) := by
          rw [hRM]
          unfold exM
          rw [eO]
          rfl
        have c222 : ∀ v', EF0 (nsD K L Ls) B A0 s v' → (v'.2.1 222 e.toNat).toInt = B + (a + 1) := fun v' hv' => by
          rw [EF0_r hv' (q := 222) (by unfold rEx; omega)]
          exact h222
        have cL : ∀ v', EF0 (nsD K L Ls) B A0 s v' → (v'.2.1 216 (B + (a + 1)).toNat).toInt = L (a + 1) := fun v' hv' => (((RST_e hP hv' hI.1).1.2.2.1 (a + 1) (by omega) (by omega)).2)
        obtain ⟨-, tk2, -, tk4, -, -⟩ := TYp_c hSP.1 ha v6
        rw [(tk4 (by omega)).2] at tk2
        unfold ub_226_33
        rw [h1, c222 v v1]
        intro _ _
        refine Par.imp (x_193 (x := W (a + 1)) (PG_of hP hIv.1) tk2 hco (hw_r hP hIv.1 ⟨by omega, by omega, hK1⟩)) ?_
        rintro vv u0 ⟨hu0, x3, rfl, hcase⟩
        have hev : ((v.1 70).toInt.toNat : Int) = (v.1 70).toInt := Int.toNat_of_nonneg hIv.2.2.1.2.2
        have W0 : WFr (v.1 64).toInt (v.1 70).toInt v u0 := WFr_73 hu0
        have v5' : v.1 65 = s1.1 65 := v5
        have v65 : (v.1 65).toInt ≤ (s.1 65).toInt + w0 := by rw [v5]; exact q3
        have F0 : EFl v u0 := EFl_wf W0 rfl rfl (by rw [hu0.2 70 (by decide) (by decide)]) (by rw [hu0.2 64 (by decide) (by decide)]; exact Int.le_refl _) (by omega)
        have E0 : EF0 (nsD K L Ls) B A0 s u0 := EF0_tr v1 (EF0_wf W0 (by omega))
        have Fs0 : EFl s u0 := EFl_tr v2 F0
        have hI0 := EIn_f hP E0 Fs0 hI
        have h80 : (u0.1 8).toInt = 0 := by rw [hu0.2 8 (by decide) (by decide)]; exact v4
        have u65 : u0.1 65 = v.1 65 := hu0.2 65 (by decide) (by decide)
        have ru : ∀ q j, q < 264 → u0.2.1 q j = s1.2.1 q j := fun q j hq => by rw [hu0.1]; exact v3 q j hq
        refine ⟨x3, rfl, fun w3 => ?_, fun w3 _ => ?_⟩
        · obtain ⟨g, hgs, hgH, hg73, hg74, hgo⟩ : ∃ g : Nat, soD K L W kd TN Ls co (W (a + 1)) = (g : Int) ∧ g < kHd K L Ls ∧ (u0.1 73).toInt = 204 * b + (g : Int) ∧ (u0.1 74).toInt = hbd K L Ls g ∧ owd K L W TN Ls g = co := by
            rcases hcase with ⟨q, -⟩ | ⟨-, q⟩
            · exact absurd q w3
            · exact q
          rw [hgs, if_neg (by omega), Int.toNat_natCast] at rM
          obtain ⟨⟨hd1, hd2⟩, -⟩ := ((PG_of hP hI0.1).2.2.2.2.1 g hgH).1
          have d230 : (u0.2.1 230 e.toNat).toInt = (Nt : Int) := by
            rw [E0.2.2.2.2.1 _ (by rw [h221]; decide), hNt]
            exact h230
          have c226 := (eAr_ch hAr hOk).1
          have eNM : NM K L (a + 1) = p_vn K L (p_e K L 11) 40 41 (0, (mO K L (a + 1)).2) := by
            unfold NM
            congr 1
            exact Prod.ext hm1 rfl
          rw [← eNM] at c226
          have d226 : (u0.2.1 226 e.toNat).toInt = (NM K L (a + 1) : Int) := by
            rw [E0.2.2.2.1 _ (by rw [h221]; decide)]
            exact c226
          -- behind a fault
          have fbad : ∀ (b1 b2 b3 b4 : Int32) (F : Int) (v : yS), b1.toInt = e → EF0 (nsD K L Ls) B A0 s v → (v.1 8).toInt = F → 0 < F → ub_226_83 (Par d) b1 b2 b3 b4 v (EPq K L ar TN Ls B A0 β0 β1 S z z' w (F, []) Φ s) := by
            intro b1 b2 b3 b4 F v hb1 k1 k2 k3
            have f119 : ∀ (b1 b2 b3 b4 b5 : Int32), ub_226_119 (Par d) b1 b2 b3 b4 b5 v (EPq K L ar TN Ls B A0 β0 β1 S z z' w (F, []) Φ s) := by
              intro b1 b2 b3 b4 b5
              unfold ub_226_119
              exact ⟨fun q => by omega, fun _ => ⟨rfl, k1, k2, by show 0 ≤ F; omega, fun q => by exfalso; have q : F = 0 := q; omega⟩⟩
            unfold ub_226_83
            intro _
            refine ⟨fun b1 b2 b3 b4 b5 v' => v' = v, rfl, ?_⟩
            rintro b1 b2 b3 b4 b5 v' rfl
            unfold ub_226_88
            refine ⟨fun _ _ => ?_, fun _ => ?_⟩
            · refine ⟨fun b1 b2 b3 b4 b5 v'' => v'' = v', rfl, ?_⟩
              rintro b1 b2 b3 b4 b5 v'' rfl
              unfold ub_226_105
              exact ⟨fun _ => f119 _ _ _ _ _, fun _ => ⟨fun _ => f119 _ _ _ _ _, fun q => by omega⟩⟩
            · refine Par.imp (x_204f (by omega)) ?_
              rintro vq sq ⟨rfl, hsq⟩
              exact ⟨rfl, fun _ => hsq⟩
          have f76 : ¬ (exN K L (a + 1) = (hdd K L W ar TN Ls g).1 ∧ NM K L (a + 1) = (hdd K L W ar TN Ls g).2.1) → ub_226_76 (Par d) a1 b2 (u0.1 73) (u0.1 74) u0 (EPq K L ar TN Ls B A0 β0 β1 S z z' w RM Φ s) := by
            intro hne
            have rM4 : RM = (4 + 16 * L (a + 1), []) := by
              rw [rM]
              unfold exC
              rw [if_neg hne]
            rw [rM4]
            unfold ub_226_76
            rw [h1]
            intro _
            refine Par.imp (x_163w (L := L) (c222 u0 E0) h80 (cL u0 E0)) ?_
            rintro v8 s5 ⟨rfl, r1', r2'⟩
            rw [if_pos rfl] at r2'
            exact ⟨rfl, fbad _ _ _ _ (4 + 16 * L (a + 1)) s5 h1 (EF0_tr E0 (EF0_8 r1')) r2' (by omega)⟩
          rw [d230, hg73, hd1, d226, hd2]
          intro _ _
          refine ⟨fun w4 => f76 (fun q => w4 (by rw [hNt]; omega)), fun w4 _ _ => ⟨fun w5 => ?_, fun w5 => f76 (fun q => w5 (by omega))⟩⟩
          have hct : exN K L (a + 1) = (hdd K L W ar TN Ls g).1 ∧ NM K L (a + 1) = (hdd K L W ar TN Ls g).2.1 := ⟨by rw [← hNt]; omega, by omega⟩
          -- the TYPES
          obtain ⟨Ya, hYa0⟩ : ∃ Ya, Ya = exY K L (a + 1) := ⟨_, rfl⟩
          have hYl : Ya.length = Nt := by rw [hYa0, hNt]; exact exY_len
          have hYa : ∀ j, j < Nt → Ya[j]? = some (uS (nxT K L) (a + 3) j) := fun j hj => by rw [hYa0]; exact exY_at (by rw [← hNt]; exact hj)
          obtain ⟨Lt, hLt⟩ : ∃ Lt, Lt = Ya.map (fun y => (tlT K L (cdOf W S.1 S.2.1 TN) ar 10 y).1) := ⟨_, rfl⟩
          obtain ⟨fb, hfb⟩ : ∃ fb : Int → List Int, fb = fun y => slG K L W ar (mvD K L W ar kd TN Ls) (Bfd K L W ar TN Ls) S.2.2.1 TN S.1 S.2.1 y := ⟨_, rfl⟩
          have hLtl : Lt.length = Nt := by rw [hLt, List.length_map]; exact hYl
          rw [← hNt] at h229 hzt zmo ztN
          have hp10 : ∀ j, j < Nt → (p_t K L 10 false (0, uS (nxT K L) (a + 3) j)).1 = 0 := fun j hj => by
            have := (hTk j hj).1
            rw [pt_mono m 10 hm false _ this]
            exact this
          have rF : ∀ F : Int, ¬ F = 0 → (ffs Lt = F ∨ (ffs Lt = 0 ∧ ffs (Ya.flatMap fb) = F)) → RM = (F, []) := fun F hF h => by
            rw [rM]
            refine exC_f hct hF ?_
            rw [hLt, hYa0, hfb] at h
            exact h
          have uSb : ∀ j, j ≤ Nt → uS (nxT K L) (a + 3) j - (a + 3) ≤ (mO K L (a + 1)).2 - (a + 1) ∧ a + 3 ≤ uS (nxT K L) (a + 3) j := fun j hj => by
            by_cases hj0 : j = 0
            · rw [hj0]
              show (a + 3) - (a + 3) ≤ _ ∧ a + 3 ≤ a + 3
              omega
            · have := hTk (j - 1) (by omega)
              have e1 : uS (nxT K L) (a + 3) j = nxT K L (uS (nxT K L) (a + 3) (j - 1)) + 1 := by
                rw [show j = (j - 1) + 1 by omega]
                rfl
              omega
          -- bounds of the TYPES, then the rest
          have f105 : ∀ v : yS, EF0 (nsD K L Ls) B A0 s v → (v.1 8).toInt = 0 → ffs Lt = 0 → EFl u0 v → NFx (e + 1) y1 u0 v → (v.1 65).toInt ≤ (u0.1 65).toInt + ((mO K L (a + 1)).2 - (a + 1)) → (∀ j, j < Nt → RSn K L B (wdT K L (cdOf W S.1 S.2.1 TN) ar β0 β1) v (v.1 65).toInt (zt j) (uS (nxT K L) (a + 3) j) ∧ A0 ≤ (v.2.1 231 (zt j).toNat).toInt) → ubl_226_105 (Par d) a1 b2 (u0.1 73) (u0.1 74) (v.2.1 229 e.toNat) v (EPq K L ar TN Ls B A0 β0 β1 S z z' w RM Φ s) := by
            intro v v1 v8 hT0 v2 v3 v4 v5
            have tl0 : ∀ j, j < Nt → (tlT K L (cdOf W S.1 S.2.1 TN) ar 10 (uS (nxT K L) (a + 3) j)).1 = 0 := fun j hj => by
              refine ffs_0.mp hT0 _ ?_
              rw [hLt]
              exact List.mem_map.mpr ⟨_, List.mem_of_getElem? (hYa j hj), rfl⟩
            have hIv2 := EIn_f hP v1 (EFl_tr Fs0 v2) hI
            have hA65 : (v.1 65).toInt ≤ 100000 := by
              rw [u65, v5'] at v4
              omega
            have g119 : ∀ (b5 : Int32) (v' : yS), EF0 (nsD K L Ls) B A0 s v' → EF0 (nsD K L Ls) B A0 v v' → EFl v v' → (∀ q j, (q < 264 ∨ 268 < q) → v'.2.1 q j = v.2.1 q j) → v'.1 65 = v.1 65 → (v'.1 8).toInt = ffs (Ya.flatMap fb) → 0 ≤ ffs (Ya.flatMap fb) → ub_226_119 (Par d) a1 b2 (u0.1 73) (u0.1 74) b5 v' (EPq K L ar TN Ls B A0 β0 β1 S z z' w RM Φ s) := by
              intro b5 v' k1 k2 k3 k4 k5 k6 k7
              by_cases hF : ffs (Ya.flatMap fb) = 0
              · have rMm : RM = mR K L W ar kd TN Ls S Q (exE K L W ar TN S (co :: O') (a + 1)) a (hdd K L W ar TN Ls g) := by
                  rw [rM]
                  rw [hLt, hYa0] at hT0
                  rw [hYa0, hfb] at hF
                  exact exC_mR hct hT0 hF
                have hRS : ∀ j, j < Nt → RSn K L B (wdT K L (cdOf W S.1 S.2.1 TN) ar β0 β1) v' (v'.1 65).toInt (zt j) (uS (nxT K L) (a + 3) j) := fun j hj => by
                  have EA : EF0 (fun _ => False) B (v.1 65).toInt v v' := EF0_any k2 (fun q j hq => k4 q j (by omega)) (fun j hj => k3.2.2.1 j (Or.inl hj))
                  rw [k5]
                  exact RSn_d EA (Int.le_refl _) (v5 j hj).1 (hp10 j hj) (fun _ _ _ q => q)
                have hIv' := EIn_f hP k1 (EFl_tr Fs0 (EFl_tr v2 k3)) hI
                rw [rMm, hQ]
                have zm0 := zmo 0 Nt (Nat.zero_le _) (Nat.le_refl _)
                rw [zt0, ztN] at zm0
                have F1v : EFl s1 v' := EFl_tr v7 (EFl_tr F0 (EFl_tr v2 k3))
                have C1v : CFq z y0 A0 (s1.1 65).toInt s1 v' := by
                  refine ⟨fun q j r1 r2 j1 j2 => ?_, fun j _ j2 => F1v.2.2.1 j (Or.inl j2)⟩
                  rw [← ru q _ (by omega), k4 q _ (by omega)]
                  by_cases hr : q = 231 ∨ q = 232 ∨ q = 226 ∨ q = 230
                  · exact v3 q _ hr (by omega)
                  · exact congrFun ((EF0_r v1 (q := q) (by unfold rEx; omega)).trans (EF0_r E0 (q := q) (by unfold rEx; omega)).symm) _
                have P1 : Φ0 v' ∧ cTs K L W ar TN β0 β1 S A0 (v'.1 65).toInt v' e y1 a := by
                  refine ⟨hst s1 v' C1v F1v.2.1.1 q5, zt, ?_, ?_⟩
                  · rw [← hNt, EF0_r k1 (q := 229) (by unfold rEx; omega)]
                    exact h229
                  · rw [← hNt]
                    intro j hj
                    obtain ⟨-, t2, t3⟩ := hzt j hj
                    have z1 := zmo 0 j (Nat.zero_le _) (by omega)
                    have z2 := zmo (j + 1) Nt (by omega) (Nat.le_refl _)
                    rw [zt0] at z1
                    rw [ztN] at z2
                    refine ⟨by omega, ⟨by rw [← wdT_wdC]; exact RSn_e (hRS j hj), by rw [k4 231 _ (by omega)]; exact (v5 j hj).2⟩, by rw [EF0_r k1 (q := 225) (by unfold rEx; omega)]; exact t3⟩
                refine m_119 (Φ := Φ) (Φ1 := fun u => Φ0 u ∧ cTs K L W ar TN β0 β1 S A0 (u.1 65).toInt u e y1 a) (fun u u' c1 c2 c3 => ⟨hst u u' (CFq_m c1 (Int.le_refl _) (by omega)) c2 c3.1, cTs_c (CFq_m c1 hz (Int.le_refl _)) c2 (by omega) (Int.le_refl _) c3.2⟩) P1 (fun u c1 c2 c3 => by rw [hΦ]; exact ⟨c2.1, hSw _ _ u _ c1 c3, cTs_c CFq_rf (Int.le_refl _) (by omega) zty c2.2⟩) hz0 h221 (zt := zt) (y1 := y1) (w1 := w0 + ((mO K L (a + 1)).2 - (a + 1))) hW hm ih hI k1 (EFl_tr Fs0 (EFl_tr v2 k3)) ?_ (by rw [k6]; exact hF) ?_ h1 h222 (by rw [← hNt]; exact h229) (fun j hj => ?_) hAr ?_ (TYp_f k3 (TYp_f v2 (TYp_f F0 v6))) hco hgH hg73 hg74 hgo hct.1 hct.2 (fun j hj => ?_) hm1 hOk ha0 (by omega) hn (fun q q1 q2 => hD q (by omega) q2) ?_ ?_
                · intro q j hq hj
                  have zm := zmo 0 Nt (Nat.zero_le _) (Nat.le_refl _)
                  rw [zt0, ztN] at zm
                  rw [k4 q j (by omega), v3 q j hq (by omega), ru q j (by omega), q2 q j hq (by omega)]
                · rw [k5]
                  rw [u65, v5'] at v4
                  omega
                · rw [← hNt] at hj ⊢
                  obtain ⟨t1, t2, t3⟩ := hzt j hj
                  exact ⟨⟨t2.1, yT_tk0 t1⟩, t3⟩
                · have zm := zmo 0 Nt (Nat.zero_le _) (Nat.le_refl _)
                  rw [zt0, ztN] at zm
                  omega
                · rw [← hNt] at hj
                  have hq := hTk j hj
                  refine ⟨(ty_of hW hIv' (by rw [k5]; exact hA65) (hRS j hj) (tl0 j hj) (hp10 j hj)).2, by omega, by omega⟩
                · rw [k5]
                  rw [u65, v5'] at v4
                  omega
                · omega
              · rw [rF _ hF (Or.inr ⟨hT0, rfl⟩)]
                unfold ub_226_119
                exact ⟨fun q => by omega, fun _ => ⟨rfl, k1, k6, k7, fun q => absurd q hF⟩⟩
            refine ⟨fun b1 b2' b3 b4 b5 v' => b1 = a1 ∧ b2' = b2 ∧ b3 = u0.1 73 ∧ b4 = u0.1 74 ∧ EF0 (nsD K L Ls) B A0 s v' ∧ EF0 (nsD K L Ls) B A0 v v' ∧ EFl v v' ∧ (∀ q j, (q < 264 ∨ 268 < q) → v'.2.1 q j = v.2.1 q j) ∧ v'.1 65 = v.1 65 ∧ ∃ j : Nat, j ≤ Nt ∧ b5.toInt = (if j < Nt then zt j else -1) ∧ (v'.1 8).toInt = ffs ((Ya.take j).flatMap fb) ∧ 0 ≤ ffs ((Ya.take j).flatMap fb), ⟨rfl, rfl, rfl, rfl, v1, EF0_rf, EFl_rf, fun _ _ _ => rfl, rfl, 0, Nat.zero_le _, ?_, ?_, ?_⟩, ?_⟩
            · rw [EF0_r v1 (q := 229) (by unfold rEx; omega)]
              exact h229
            · rw [List.take_zero]
              exact v8
            · rw [List.take_zero]
              exact Int.le_refl _
            rintro b1 b2' b3 b4 b5 v' ⟨rb1, rb2, rb3, rb4, k1, k2, k3, k4, k5, j, j1, j2, j3, j4⟩
            subst rb1 rb2 rb3 rb4
            unfold ub_226_105
            refine ⟨fun w6 => ?_, fun w6 => ⟨fun w7 => ?_, fun w7 => ?_⟩⟩
            · have hjN : j = Nt := by
                by_cases hq : j < Nt
                · rw [if_pos hq] at j2
                  have := (hzt j hq).2.1
                  omega
                · omega
              rw [hjN, ← hYl, List.take_length] at j3 j4
              exact g119 _ v' k1 k2 k3 k4 k5 j3 j4
            · rw [j3] at w7
              have eF := fm_take w7
              rw [← eF] at j3 j4
              exact g119 _ v' k1 k2 k3 k4 k5 j3 j4
            · have w7' := w7
              rw [j3] at w7
              have hjN : j < Nt := by
                by_cases hq : j < Nt
                · exact hq
                · rw [if_neg hq] at j2
                  omega
              rw [if_pos hjN] at j2
              have hq := hTk j hjN
              have hIv' := EIn_f hP k1 (EFl_tr Fs0 (EFl_tr v2 k3)) hI
              have EA : EF0 (fun _ => False) B (v.1 65).toInt v v' := EF0_any k2 (fun q j hq => k4 q j (by omega)) (fun j hj => k3.2.2.1 j (Or.inl hj))
              have hRS : RSn K L B (wdT K L (cdOf W S.1 S.2.1 TN) ar β0 β1) v' (v'.1 65).toInt (zt j) (uS (nxT K L) (a + 3) j) := by
                rw [k5]
                exact RSn_d EA (Int.le_refl _) (v5 j hjN).1 (hp10 j hjN) (fun _ _ _ q => q)
              refine Par.imp (eb_211 hW hIv' w7' j2 (by rw [k5]; exact hA65) hRS (tl0 j hjN) (hp10 j hjN) (by omega) (by omega)) ?_
              rintro vq s12 ⟨rfl, o1, o2, o3, o4, o5, o6⟩
              refine ⟨rfl, fun _ => ⟨rfl, rfl, rfl, rfl, EF0_tr k1 o1, EF0_tr k2 o1, EFl_tr k3 o3, fun q j hq => by rw [o4 q j hq, k4 q j hq], by rw [o6, k5], j + 1, by omega, ?_, ?_, ?_⟩⟩
              · rw [o4 225 _ (by omega), j2, EF0_r k1 (q := 225) (by unfold rEx; omega)]
                exact (hzt j hjN).2.2
              · rw [fm_tk (hYa j hjN), if_pos w7, o2, hfb]
              · rw [fm_tk (hYa j hjN), if_pos w7, hfb]
                exact slG_nn (S := S) hP (by omega) (by omega) (tl0 j hjN) (hp10 j hjN)
          unfold ub_226_83
          rw [h1]
          intro _
          refine ⟨fun b1 b2' b3 b4 b5 v' => b1 = a1 ∧ b2' = b2 ∧ b3 = u0.1 73 ∧ b4 = u0.1 74 ∧ EF0 (nsD K L Ls) B A0 s v' ∧ ∃ j : Nat, j ≤ Nt ∧ b5.toInt = (if j < Nt then zt j else -1) ∧ (v'.1 8).toInt = ffs (Lt.take j) ∧ 0 ≤ ffs (Lt.take j) ∧ (ffs (Lt.take j) = 0 → EFl u0 v' ∧ NFx (e + 1) (zt j) u0 v' ∧ (v'.1 65).toInt ≤ (u0.1 65).toInt + (uS (nxT K L) (a + 3) j - (a + 3)) ∧ ∀ i, i < j → RSn K L B (wdT K L (cdOf W S.1 S.2.1 TN) ar β0 β1) v' (v'.1 65).toInt (zt i) (uS (nxT K L) (a + 3) i) ∧ A0 ≤ (v'.2.1 231 (zt i).toNat).toInt), ⟨rfl, rfl, rfl, rfl, E0, 0, Nat.zero_le _, ?_, ?_, ?_, fun _ => ⟨EFl_rf, NFx_rf, ?_, fun i hi => absurd hi (Nat.not_lt_zero _)⟩⟩, ?_⟩
          · rw [EF0_r E0 (q := 229) (by unfold rEx; omega)]
            exact h229
          · rw [List.take_zero]
            exact h80
          · rw [List.take_zero]
            exact Int.le_refl _
          · show (u0.1 65).toInt ≤ (u0.1 65).toInt + ((a + 3) - (a + 3))
            omega
          rintro b1 b2' b3 b4 b5 v' ⟨rb1, rb2, rb3, rb4, k1, j, j1, j2, j3, j4, j5⟩
          subst rb1 rb2 rb3 rb4
          unfold ub_226_88
          refine ⟨fun w6 _ => ?_, fun w6 => ?_⟩
          · have hjN : j = Nt := by
              by_cases hq : j < Nt
              · rw [if_pos hq] at j2
                have := (hzt j hq).2.1
                omega
              · omega
            have eT : Lt.take j = Lt := by rw [hjN, ← hLtl, List.take_length]
            rw [eT] at j3 j4 j5
            rw [h1]
            by_cases hF : ffs Lt = 0
            · obtain ⟨g1, g2, g3, g4⟩ := j5 hF
              rw [hjN, ztN] at g2
              have := (uSb j j1).1
              exact f105 v' k1 (by rw [j3]; exact hF) hF g1 g2 (by omega) (fun i hi => g4 i (by omega))
            · rw [rF _ hF (Or.inl rfl)]
              refine ⟨fun b1 b2 b3 b4 b5 v'' => v'' = v', rfl, ?_⟩
              rintro b1 b2 b3 b4 b5 v'' rfl
              have f119 : ∀ (b1 b2 b3 b4 b5 : Int32), ub_226_119 (Par d) b1 b2 b3 b4 b5 v'' (EPq K L ar TN Ls B A0 β0 β1 S z z' w (ffs Lt, []) Φ s) := by
                intro b1 b2 b3 b4 b5
                unfold ub_226_119
                exact ⟨fun q => by omega, fun _ => ⟨rfl, k1, j3, j4, fun q => absurd q hF⟩⟩
              unfold ub_226_105
              exact ⟨fun _ => f119 _ _ _ _ _, fun _ => ⟨fun _ => f119 _ _ _ _ _, fun q => by omega⟩⟩
          · have hjN : j < Nt := by
              by_cases hq : j < Nt
              · exact hq
              · rw [if_neg hq] at j2
                omega
            rw [if_pos hjN] at j2
            have hLk : Lt[j]? = some (tlT K L (cdOf W S.1 S.2.1 TN) ar 10 (uS (nxT K L) (a + 3) j)).1 := by
              rw [hLt, List.getElem?_map, hYa j hjN]
              rfl
            have eFs := ffs_tk hLk
            have nx225 : ∀ v'' : yS, EF0 (nsD K L Ls) B A0 s v'' → (v''.2.1 225 b5.toInt.toNat).toInt = (if j + 1 < Nt then zt (j + 1) else -1) := fun v'' hv => by
              rw [j2, EF0_r hv (q := 225) (by unfold rEx; omega)]
              exact (hzt j hjN).2.2
            by_cases hF : ffs (Lt.take j) = 0
            · rw [if_pos hF] at eFs
              obtain ⟨g1, g2, g3, g4⟩ := j5 hF
              have hq := hTk j hjN
              have ub := (uSb j j1)
              have hIv' := EIn_f hP k1 (EFl_tr Fs0 g1) hI
              have h8' : (v'.1 8).toInt = 0 := by rw [j3]; exact hF
              have hA' : (v'.1 65).toInt + (nxT K L (uS (nxT K L) (a + 3) j) - uS (nxT K L) (a + 3) j) ≤ 100000 := by
                rw [u65, v5'] at g3
                omega
              have hyT := yT_e k1 _ _ _ _ (hzt j hjN).1
              refine Par.imp (Par_and (er_204 hW hIv' h8' hm j2 hyT hq.1 (by omega) (by omega) (fun q q1 q2 => hD q (by omega) (by omega)) hA') (er_204d hW hIv' h8' hm j2 hyT hq.1 (by omega) (by omega))) ?_
              rintro vq s12 ⟨⟨rfl, o1, o2, o3⟩, o4⟩
              refine ⟨rfl, fun _ => ⟨rfl, rfl, rfl, rfl, EF0_tr k1 o1, j + 1, by omega, nx225 s12 (EF0_tr k1 o1), by rw [eFs]; exact o2, ?_, fun q => ?_⟩⟩
              · rw [eFs]
                exact tlT_nn hP.1.1 10 _ (Nat.le_refl _) (by omega) (hp10 j hjN) (by omega)
              · rw [eFs] at q
                obtain ⟨r1, r2, ⟨r3, r3'⟩, r4, r5⟩ := o3 q
                have zm := zmo 0 j (Nat.zero_le _) (by omega)
                rw [zt0] at zm
                have zm2 := (hzt j hjN).2.1
                refine ⟨EFl_tr g1 r1, NFx_tr (x1 := e + 1) (y1 := zt (j + 1)) g2 r2 ⟨Int.le_refl _, by omega⟩ ⟨by omega, Int.le_refl _⟩, ?_, fun i hi => ?_⟩
                · show (s12.1 65).toInt ≤ (u0.1 65).toInt + (nxT K L (uS (nxT K L) (a + 3) j) + 1 - (a + 3))
                  omega
                · by_cases ei : i = j
                  · rw [ei]
                    have := hIv'.2.2.1.1
                    exact ⟨r4, by omega⟩
                  · have hi' : i < j := by omega
                    have ord := hq.2.2.2.2 i hi'
                    have zi := zmo (i + 1) j (by omega) (by omega)
                    have zi2 := (hzt i (by omega)).2.1
                    refine ⟨RSn_A (RSn_d o4 (Int.le_refl _) (g4 i hi').1 (hp10 i (by omega)) (fun p p1 p2 w => by omega)) r1.2.1.1, ?_⟩
                    rw [r2 231 _ (Or.inl rfl) (by omega)]
                    exact (g4 i hi').2
            · rw [if_neg hF] at eFs
              refine Par.imp (x_204f (by omega)) ?_
              rintro vq sq ⟨rfl, hsq⟩
              rw [hsq]
              exact ⟨rfl, fun _ => ⟨rfl, rfl, rfl, rfl, k1, j + 1, by omega, nx225 v' k1, by rw [eFs]; exact j3, by rw [eFs]; exact j4, fun q => absurd (by rw [← eFs]; exact q) hF⟩⟩
        · have hs : soD K L W kd TN Ls co (W (a + 1)) = -1 := by
            rcases hcase with ⟨-, q⟩ | ⟨q, -⟩
            · exact q
            · omega
          rw [hs, if_pos (by decide)] at rM
          refine Par.imp (x_163w (L := L) (c222 u0 E0) h80 (cL u0 E0)) ?_
          rintro v8 s5 ⟨rfl, r1', r2'⟩
          rw [if_pos rfl] at r2'
          rw [rM]
          exact ⟨rfl, rfl, EF0_tr E0 (EF0_8 r1'), r2', by show 0 ≤ 2 + 16 * L (a + 1); omega, fun q => by exfalso; have q : 2 + 16 * L (a + 1) = 0 := q; omega⟩
      refine Par.imp (x_225 (D := nsD K L Ls) (B := B) (A0 := A0)) ?_
      rintro v4 s3 ⟨rfl, g1, g2, g3, g4⟩
      have E3 := EF0_tr p1 g1
      have F3 := EFl_tr q1 g2
      have hI3 := EIn_f hP E3 F3 hI
      have q43 : TYp ar (TN.length : Int) β0 β1 (S.2.1.length : Int) (S.1.length : Int) s3 (s3.1 80).toInt (s3.1 81).toInt (c :: A') := by
        rw [g3 80 (by decide), g3 81 (by decide)]
        exact TYp_f g2 q4
      have h83 : (s3.1 8).toInt = 0 := by rw [g3 8 (by decide)]; exact h81
      obtain ⟨tc1, -, tc3, tc4, tc5, -⟩ := TYp_c hSP.1 ha q43
      refine ⟨rfl, fun _ => Par.imp x_185 ?_⟩
      rintro v6 s5 ⟨hs5, x7, rfl, hx7⟩
      subst hs5
      rw [tc1] at hx7
      refine ⟨x7, rfl, fun w7 => ?_, fun w7 _ => ?_⟩
      · have hc : c < 24 := by
          rcases Int.lt_or_le c 24 with q | q
          · exact q
          · have := tc5 q
            omega
        exact f33 _ c A' _ s5 E3 F3 (fun q j hq => g4 q j (by omega)) h83 (g3 65 (by decide)) q43 (if_pos hc) ⟨tc3.1, (tc4 hc).1⟩ g2
      · have hc : 24 ≤ c := by
          rcases Int.lt_or_le c 24 with q | q
          · have := (tc4 q).2
            omega
          · exact q
        refine Par.imp x_185 ?_
        rintro v9 s8 ⟨hs8, x10, rfl, hx10⟩
        subst hs8
        rw [tc1] at hx10
        refine ⟨x10, rfl, Par.imp (ow_194 hW hI3 (by rw [g3 65 (by decide)]; omega) q43 hc hx10) ?_⟩
        rintro v12 s11 ⟨rfl, k1, k2, ⟨k3, k4, k5⟩, -, k6, k7⟩
        have eO : ownT S.2.2.1 (c :: A') = S.2.2.1 c := if_neg (show ¬ c < 24 by omega)
        obtain ⟨co, O', eCo⟩ : ∃ co O', S.2.2.1 c = co :: O' := by
          cases hq : S.2.2.1 c with
          | nil =>
            rw [hq] at k6
            exact absurd rfl (isR_ne k6.2.2.2.2.1)
          | cons a l => exact ⟨a, l, rfl⟩
        rw [eCo] at k6 k7 eO
        have k7 : kd co = 2 := k7
        have hco : 0 ≤ co ∧ co < (TN.length : Int) := by
          have h0 := hP.2.2.2.2.2.1
          rcases Int.lt_or_le co 0 with q | q
          · have := h0 co (Or.inl q)
            omega
          · rcases Int.lt_or_le co (TN.length : Int) with q2 | q2
            · exact ⟨q, q2⟩
            · have := h0 co (Or.inr (by omega))
              omega
        refine ⟨rfl, f33 _ co O' _ s11 (EF0_tr E3 k1) (EFl_tr F3 k2) (fun q j hq => by rw [k5 q j (Or.inl hq), g4 q j (by omega)]) (by rw [k3]; exact h83) (by rw [k4, g3 65 (by decide)]) k6 eO hco (EFl_tr g2 k2)⟩
    · have hR0 : ¬ R.1 = 0 := by omega
      rw [if_neg hR0]
      exact ⟨rfl, p1, p2, p2n, fun q => absurd q hR0⟩
end ZUM
