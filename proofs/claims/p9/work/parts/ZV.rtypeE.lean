/-! ===== the reference: typeE, whole ===== -/
section ZVE
variable {K L W ar kd : Int → Int} {n lo hi B b A0 x y β0 β1 : Int} {TN Ls : List Int} {S : Scp} {s : yS} {d m : Nat} {ev : Int → Int × List Int} {t z : Int}
theorem exS_snoc : ∀ (k : Nat) (a : Int) (r : Int × List Int), (∀ j, j < k + 1 → K (aIt K L j a) = 46) → exS K L W ar kd TN Ls S ev (k + 1) a r = if (exS K L W ar kd TN Ls S ev k a r).1 = 0 then exO K L W ar kd TN Ls S ev (aIt K L k a) (exS K L W ar kd TN Ls S ev k a r).2 else exS K L W ar kd TN Ls S ev k a r
  | 0, a, r, h => by
    have h0 : K a = 46 := h 0 (by omega)
    show (if r.1 = 0 ∧ K a = 46 then exO K L W ar kd TN Ls S ev a r.2 else r) = if r.1 = 0 then exO K L W ar kd TN Ls S ev a r.2 else r
    by_cases hr : r.1 = 0
    · rw [if_pos ⟨hr, h0⟩, if_pos hr]
    · rw [if_neg (fun q => hr q.1), if_neg hr]
  | k + 1, a, r, h => by
    have h0 : K a = 46 := h 0 (by omega)
    by_cases hr : r.1 = 0
    · have e1 : ∀ i, exS K L W ar kd TN Ls S ev (i + 1) a r = exS K L W ar kd TN Ls S ev i (aPt K L a) (exO K L W ar kd TN Ls S ev a r.2) := fun i => if_pos ⟨hr, h0⟩
      rw [e1 (k + 1), e1 k, exS_snoc k (aPt K L a) _ (fun j hj => by rw [aIt_c]; exact h (j + 1) (by omega)), aIt_c]
    · rw [exS_b _ _ _ hr, exS_b _ _ _ hr, if_neg hr]
theorem exS_stop : ∀ (k n : Nat) (a : Int) (r : Int × List Int), k ≤ n → (∀ j, j < k → K (aIt K L j a) = 46) → ¬ K (aIt K L k a) = 46 → exS K L W ar kd TN Ls S ev n a r = exS K L W ar kd TN Ls S ev k a r
  | 0, 0, _, _, _, _, _ => rfl
  | 0, n + 1, a, r, _, _, h => if_neg (fun q => h q.2)
  | k + 1, 0, _, _, hk, _, _ => absurd hk (Nat.not_succ_le_zero _)
  | k + 1, n + 1, a, r, hk, h1, h2 => by
    have h0 : K a = 46 := h1 0 (by omega)
    by_cases hr : r.1 = 0
    · have e1 : ∀ i, exS K L W ar kd TN Ls S ev (i + 1) a r = exS K L W ar kd TN Ls S ev i (aPt K L a) (exO K L W ar kd TN Ls S ev a r.2) := fun i => if_pos ⟨hr, h0⟩
      rw [e1 n, e1 k]
      exact exS_stop k n (aPt K L a) _ (by omega) (fun j hj => by rw [aIt_c]; exact h1 (j + 1) (by omega)) (by rw [aIt_c]; exact h2)
    · rw [exS_b _ _ _ hr, exS_b _ _ _ hr]
theorem ePs_it {f : Int → Int → Int → Int → Prop} : ∀ (k : Nat) (y a e : Int), ePs K L B s m f z t k y a e → a = aIt K L k (aHd K L t) ∧ ∀ j, j < k → K (aIt K L j (aHd K L t)) = 46
  | 0, y, a, e, h => ⟨h.2.2, fun j hj => absurd hj (Nat.not_lt_zero _)⟩
  | k + 1, y, a, e, h => by
    obtain ⟨y0, a0, e0, h1, h2, -, -, h5⟩ := h
    obtain ⟨g1, g2⟩ := ePs_it k y0 a0 e0 h1
    refine ⟨by rw [h5, g1]; rfl, fun j hj => ?_⟩
    by_cases q : j = k
    · rw [q, ← g1]
      exact h2
    · exact g2 j (by omega)
theorem aIt_lt (hm : m ≤ 10) {a : Int} {k : Nat} (h : ∀ j, j < k → POk K L m (aIt K L j a)) : ∀ i j, i ≤ j → j ≤ k → aIt K L i a ≤ aIt K L j a := by
  intro i j hij
  induction hij with
  | refl => exact fun _ => Int.le_refl _
  | @step j hij ih =>
    intro hj
    have h1 := ih (by omega)
    have h2 := (POk_o hm (h j (by omega))).1
    show aIt K L i a ≤ aPt K L (aIt K L j a)
    omega
theorem EPq_i {β0 β1 x' y' w : Int} {R : Int × List Int} {Φ Φ' : yS → Prop} {v : Option Value} {s' : yS} (h : EPq K L ar TN Ls B A0 β0 β1 S x' y' w R Φ s v s') (hi : EF0 (nsD K L Ls) B A0 s s' → Φ s' → Φ' s') : EPq K L ar TN Ls B A0 β0 β1 S x' y' w R Φ' s v s' := by
  obtain ⟨h1, h2, h3, h4, h5⟩ := h
  refine ⟨h1, h2, h3, h4, fun q => ?_⟩
  obtain ⟨k1, k2, k3, k4, k5⟩ := h5 q
  exact ⟨k1, k2, k3, k4, hi h2 k5⟩
/-- an E with k points -/
theorem x_217k (hW : EWd K L W ar kd TN Ls n lo hi B b β0 β1 S) (hm : m ≤ 10) (ih : E217 K L W ar kd TN Ls n B b A0 x y β0 β1 S m) (hI : EIn K L W ar kd TN Ls n B b A0 x y β0 β1 S s) (h8 : (s.1 8).toInt = 0) (hH : HOk K L m t) (ht : 0 ≤ t) : ∀ (k : Nat) (y' a' e' : Int), ePs K L B s m (eT K L B s m) z t k y' a' e' → (∀ j, j < k → POk K L m (aIt K L j (aHd K L t))) → aIt K L k (aHd K L t) ≤ n → (∀ v, t ≤ v → v < aIt K L k (aHd K L t) → nsD K L Ls v) → (s.1 65).toInt + (aIt K L k (aHd K L t) - t) ≤ 100000 → ∀ (d : Nat) (a1 : Int32), a1.toInt = e' → Par d 217 [.ref 213, .int a1] s (EPq K L ar TN Ls B A0 β0 β1 S z y' (aIt K L k (aHd K L t) - t) (exS K L W ar kd TN Ls S (exE6 K L W ar kd TN Ls S m) k (aHd K L t) (exH K L W ar kd TN Ls S (exE6 K L W ar kd TN Ls S m) t)) (fun u => ePc K L W ar kd TN Ls B β0 β1 S A0 (u.1 65).toInt u m (eC K L W ar kd TN Ls B β0 β1 S A0 (u.1 65).toInt u m) (exE6 K L W ar kd TN Ls S m) z t k y' a' e') s)
  | 0, y', a', e', hE, _, hn, hD, hA, d, a1, h1 => by
    cases d with
    | zero => exact Par_0
    | succ d =>
      obtain ⟨rfl, ⟨g1, g2, g3⟩, ga⟩ := hE
      have hn : aHd K L t ≤ n := hn
      have hA : (s.1 65).toInt + (aHd K L t - t) ≤ 100000 := hA
      refine pb_217 ?_
      unfold ub_217_0
      rw [h1]
      refine ⟨fun _ _ => ?_, fun q => absurd (by omega) q⟩
      show _ ∧ _
      by_cases hc : K (t + 1) = 123 ∨ K (t + 1) = 91
      · rw [if_pos hc] at g3
        obtain ⟨k1, k2, y1, k3, k4, k5⟩ := g3
        obtain ⟨hp, hO⟩ := hH.2 hc
        have eX : exH K L W ar kd TN Ls S (exE6 K L W ar kd TN Ls S m) t = exL K L W ar kd TN Ls S (exE6 K L W ar kd TN Ls S m) t := if_pos hc
        rw [k1]
        refine ⟨fun q => by omega, fun q => by omega, fun _ => ?_, fun q => by omega, fun q => by omega⟩
        refine Par.imp (x_221 hW hm ih hI h8 h1 g1.1 hc g2 k1 k2 k3 k4 k5 hp hO ht hn hD hA) ?_
        intro v s' hv
        refine ⟨hv.1, ?_⟩
        show EPq K L ar TN Ls B A0 β0 β1 S e' y' (aHd K L t - t) (exH K L W ar kd TN Ls S (exE6 K L W ar kd TN Ls S m) t) (fun u => ePc K L W ar kd TN Ls B β0 β1 S A0 (u.1 65).toInt u m (eC K L W ar kd TN Ls B β0 β1 S A0 (u.1 65).toInt u m) (exE6 K L W ar kd TN Ls S m) e' t 0 y' a' e') s none s'
        rw [eX, ← hv.1]
        exact EPq_i hv (fun _ q => ⟨⟨rfl, q.1, ga⟩, q.2⟩)
      · rw [if_neg hc] at g3
        obtain ⟨k1, k2, k3⟩ := g3
        have eH : aHd K L t = t + 1 := if_neg hc
        have eX : exH K L W ar kd TN Ls S (exE6 K L W ar kd TN Ls S m) t = exV L W S t := if_neg hc
        rw [k1]
        refine ⟨fun q => by omega, fun _ => ?_, fun q => by omega, fun q => by omega, fun q => by omega⟩
        refine Par.imp (x_218 (z := e') (z' := y') (w := aHd K L t - t) hW hI h8 (by omega) h1 k1 k2 ht (by omega) hH.1 (by omega) ⟨Int.le_refl _, g1.2⟩ g1.1) ?_
        intro v s' hv
        refine ⟨hv.1, ?_⟩
        show EPq K L ar TN Ls B A0 β0 β1 S e' y' (aHd K L t - t) (exH K L W ar kd TN Ls S (exE6 K L W ar kd TN Ls S m) t) (fun u => ePc K L W ar kd TN Ls B β0 β1 S A0 (u.1 65).toInt u m (eC K L W ar kd TN Ls B β0 β1 S A0 (u.1 65).toInt u m) (exE6 K L W ar kd TN Ls S m) e' t 0 y' a' e') s none s'
        rw [eX, ← hv.1]
        refine EPq_i hv (fun E q => ⟨⟨rfl, ⟨g1, ?_, ?_⟩, ga⟩, ?_⟩)
        · rw [EF0_r E (q := 227) (by unfold rEx; omega)]
          exact g2
        · rw [if_neg hc, EF0_r E (q := 221) (by unfold rEx; omega), EF0_r E (q := 222) (by unfold rEx; omega)]
          exact ⟨k1, k2, k3⟩
        · unfold cHd
          rw [if_neg hc]
          exact q
  | k + 1, y', a', e', hE, hPO, hn, hD, hA, d, a1, h1 => by
    cases d with
    | zero => exact Par_0
    | succ d =>
      have hEs := hE
      have h46 := (ePs_it _ _ _ _ hE).2
      obtain ⟨y0, a0, e0, g1, g2, g3, g4, g5⟩ := hE
      have ea := (ePs_it _ _ _ _ g1).1
      have hr0 := ePs_r _ _ _ _ g1
      have hr0z : 0 ≤ z := (ePs_lt g1).2.2
      have hPk := hPO k (by omega)
      rw [← ea] at hPk
      obtain ⟨o1, o2, o3, o4⟩ := POk_o hm hPk
      have mo := aIt_lt hm hPO
      have m0 := mo 0 k (Nat.zero_le _) (by omega)
      have e0' : aIt K L 0 (aHd K L t) = aHd K L t := rfl
      rw [e0', ← ea] at m0
      have ek : aIt K L (k + 1) (aHd K L t) = aPt K L a0 := by
        show aPt K L (aIt K L k (aHd K L t)) = _
        rw [← ea]
      have hHt : t < aHd K L t := by
        by_cases hc : K (t + 1) = 123 ∨ K (t + 1) = 91
        · obtain ⟨hp, hO⟩ := hH.2 hc
          have q1 := nxT_gt (m := m) (by omega) hp
          have q2 := (AOk_o hm hO).1
          omega
        · have eH : aHd K L t = t + 1 := if_neg hc
          omega
      have IH := x_217k hW hm ih hI h8 hH ht k y0 a0 e0 g1 (fun j hj => hPO j (by omega)) (by rw [← ea]; omega) (fun v v1 v2 => hD v v1 (by rw [← ea] at v2; omega)) (by rw [← ea]; rw [ek] at hA; omega)
      rw [ek] at hn hD hA ⊢
      rw [← ea] at IH
      have eS := exS_snoc (W := W) (ar := ar) (kd := kd) (TN := TN) (Ls := Ls) (S := S) (ev := exE6 K L W ar kd TN Ls S m) k (aHd K L t) (exH K L W ar kd TN Ls S (exE6 K L W ar kd TN Ls S m) t) h46
      rw [← ea] at eS
      rw [eS]
      refine pb_217 ?_
      unfold ub_217_0
      rw [h1]
      refine ⟨fun _ _ => ?_, fun q => absurd (by omega) q⟩
      have hPts := g4
      obtain ⟨p1, p2, p3, p4⟩ := g4
      obtain ⟨Φ0, hΦ0⟩ : ∃ Φ0 : yS → Prop, Φ0 = (fun u => ePc K L W ar kd TN Ls B β0 β1 S A0 (u.1 65).toInt u m (eC K L W ar kd TN Ls B β0 β1 S A0 (u.1 65).toInt u m) (exE6 K L W ar kd TN Ls S m) z t k y0 a0 e0) := ⟨_, rfl⟩
      obtain ⟨Φ, hΦ⟩ : ∃ Φ : yS → Prop, Φ = (fun u => ePc K L W ar kd TN Ls B β0 β1 S A0 (u.1 65).toInt u m (eC K L W ar kd TN Ls B β0 β1 S A0 (u.1 65).toInt u m) (exE6 K L W ar kd TN Ls S m) z t (k + 1) y' a' e') := ⟨_, rfl⟩
      rw [← hΦ0] at IH
      rw [← hΦ]
      obtain ⟨RK, hRK⟩ : ∃ RK, RK = exS K L W ar kd TN Ls S (exE6 K L W ar kd TN Ls S m) k (aHd K L t) (exH K L W ar kd TN Ls S (exE6 K L W ar kd TN Ls S m) t) := ⟨_, rfl⟩
      rw [← hRK] at IH
      rw [← hRK]
      have hst : ∀ u u', CFq z y0 A0 (u.1 65).toInt u u' → (u.1 65).toInt ≤ (u'.1 65).toInt → Φ0 u → Φ0 u' := fun u u' c1 c2 c3 => by
        rw [hΦ0] at c3 ⊢
        exact ePc_c c1 c2 (fun x' y' t e' q1 q2 => eC_c m (CFq_m c1 q1 q2) c2) c3
      have tie : ∀ u, Φ0 u → ePt K L B u m (eC K L W ar kd TN Ls B β0 β1 S A0 (u.1 65).toInt u m) e0 e' y' a0 → cPt K L W ar TN Ls β0 β1 S A0 (u.1 65).toInt u e' y' a0 (RK.2.headD 0) → Φ u := fun u c1 c2 c3 => by
        rw [hΦ0] at c1
        rw [hRK] at c3
        rw [hΦ]
        exact ⟨y0, a0, e0, c1, g2, g3, c2, g5, c3⟩
      have fin : ∀ {R : Int × List Int} {v : Option Value} {s' : yS} {Φ1 : yS → Prop}, EPq K L ar TN Ls B A0 β0 β1 S z y' (aPt K L a0 - t) R Φ1 s v s' → (EF0 (nsD K L Ls) B A0 s s' → Φ1 s' → Φ s') → v = none ∧ EPq K L ar TN Ls B A0 β0 β1 S z y' (aPt K L a0 - t) R Φ s none s' := fun {R v s' Φ1} hv hi => ⟨hv.1, by
        have := EPq_i hv hi
        rw [hv.1] at this
        exact this⟩
      by_cases h40 : K (a0 + 1) = 40
      · rw [if_pos h40] at p4
        obtain ⟨k1, k2, k3⟩ := p4
        obtain ⟨hp, -⟩ := hPk.2.1 h40
        obtain ⟨q1, q2⟩ := o2 h40
        have eO : ∀ A, exO K L W ar kd TN Ls S (exE6 K L W ar kd TN Ls S m) a0 A = exA K L W ar kd TN Ls S a0 A := fun A => if_pos h40
        rw [k1, eO]
        refine ⟨fun _ => ?_, fun q => by omega, fun q => by omega, fun q => by omega, fun q => by omega⟩
        exact Par.imp (x_228 hst hr0z hW hm hI h1 p1.1 p2 p3 k2 k3 hp (fun d q hq => IH d q hq) (by omega) (by omega) (by omega) (by omega) (by omega) (by omega) (fun v v1 v2 => hD v (by omega) (by omega)) (by omega)) (fun v s' hv => fin hv (fun E q => tie s' q.1 (ePt_nf (ePt_e E (fun _ _ _ _ q => q) hPts) (Or.inl h40)) (by unfold cPt; rw [if_pos h40]; exact q.2)))
      · by_cases hb9 : K (a0 + 2) = 91 ∨ K (a0 + 2) = 40
        · have k1 := (ePt_m hPts h40 hb9).1.1
          have eO : ∀ A, exO K L W ar kd TN Ls S (exE6 K L W ar kd TN Ls S m) a0 A = exM K L W ar kd TN Ls S (exE6 K L W ar kd TN Ls S m) a0 A := fun A => by
            unfold exO
            rw [if_neg h40, if_pos hb9]
          rw [k1, eO]
          refine ⟨fun q => by omega, fun q => by omega, fun q => by omega, fun q => by omega, fun _ => ?_⟩
          exact Par.imp (x_226 hst hr0z hW hm ih hI h1 p1.1 hPts h40 hb9 hPk (fun d q hq => IH d q hq) (by omega) (by omega) (by omega) (by omega) (by omega) hn (fun v v1 v2 => hD v (by omega) v2) (by omega)) (fun v s' hv => fin hv (fun E q => tie s' q.1 q.2.1 (by unfold cPt; rw [if_neg h40, if_pos hb9]; exact q.2.2)))
        · rw [if_neg h40, if_neg (fun q => hb9 (Or.inl q)), if_neg (fun q => hb9 (Or.inr q))] at p4
          obtain ⟨k2, k1, k3⟩ := p4
          have hK1 := (hPk.2.2 h40).1
          have eO : ∀ A, exO K L W ar kd TN Ls S (exE6 K L W ar kd TN Ls S m) a0 A = exF K L W ar kd TN Ls a0 A := fun A => by
            unfold exO
            rw [if_neg h40, if_neg hb9]
          rw [k1, eO]
          refine ⟨fun q => by omega, fun q => by omega, fun q => by omega, fun _ => ?_, fun q => by omega⟩
          exact Par.imp (x_223 hst (by omega) (by omega) hr0z hW hI h1 k1 p2 p3 k2 (fun d q hq => IH d q hq) (by omega) (by omega) (by omega) (by omega) hK1 (by omega)) (fun v s' hv => fin hv (fun E q => tie s' q.1 (ePt_nf (ePt_e E (fun _ _ _ _ q => q) hPts) (Or.inr hb9)) (by unfold cPt; rw [if_neg h40, if_neg hb9]; exact q.2)))
/-- typeE -/
theorem E217_all (hW : EWd K L W ar kd TN Ls n lo hi B b β0 β1 S) : ∀ m, m ≤ 11 → E217 K L W ar kd TN Ls n B b A0 x y β0 β1 S m
  | 0, _ => fun d a1 z z' t s _ _ hT => hT.elim
  | m + 1, hm => fun d a1 z z' t s hI h8 hT hp ht hn hD hA => by
    obtain ⟨k, hk, h1⟩ := hT
    obtain ⟨g1, g2⟩ := pe_u (by omega) hp
    obtain ⟨e1, e2⟩ := ePs_it _ _ _ _ h1
    obtain ⟨u1, u2, u3⟩ := pps_u (by omega) 20 _ g2 k e2
    have hz := pps_z 20 _ g2
    have key := x_217k hW (by omega) (E217_all hW m (by omega)) hI h8 g1 ht k _ _ _ h1 u1 (by rw [← e1]; exact hn) (by rw [← e1]; exact hD) (by rw [← e1]; exact hA) d a1 rfl
    rw [← e1] at key
    have eS : exE6 K L W ar kd TN Ls S (m + 1) t = exS K L W ar kd TN Ls S (exE6 K L W ar kd TN Ls S m) k (aHd K L t) (exH K L W ar kd TN Ls S (exE6 K L W ar kd TN Ls S m) t) := exS_stop k 20 _ _ u2 e2 (by rw [← e1]; exact hz)
    rw [eS]
    refine Par.imp key (fun v s' hv => EPq_i hv (fun _ q => ⟨k, hk, ?_⟩))
    exact q
end ZVE
