/-! ===== the reference: instances: addE ===== -/
section ZVUB
variable {ar : Int → Int} {nT β0 β1 Z : Int} {wr hw : Nat → Int} {H : Nat} {fx : Int → Int → Int} {Dr : Mit → Prop} {Bd : Prop} {Ev : Env}
theorem AEn_s {f : Nat} (ih : AEn ar nT β0 β1 Z wr hw H fx Dr Bd Ev f) (hZ : Z ≤ 13000) (ha : ∀ c, 0 ≤ ar c ∧ ar c ≤ 7) (h24 : ∀ c, 24 ≤ c → ar c = 0) (hE : enK ar nT Ev) (hH : ∀ g g', g < H → g' < H → (wr g = wr g' ↔ hw g = hw g')) (hfx : ∀ c g g', g < H → g' < H → 0 ≤ fx c (hw g) → fx c (hw g) = fx c (hw g') → hw g = hw g') : AEn ar nT β0 β1 Z wr hw H fx Dr Bd Ev (f + 1) := by
  intro d s a1 a2 e T its C hN hV hT hT0 hI hC h2
  cases d with
  | zero => exact Par_0
  | succ d =>
    obtain ⟨M1, M2⟩ := RIl_M hI
    obtain ⟨h0, hN⟩ := hN
    refine pb_253 ?_
    unfold ub_253_0 ub_253_9
    have same : (¬ (s.1 111).toInt = 0 → dn ar (eta Ev.1 Ev.2) its C) → (none : Option Value) = none ∧ IFj T s s ∧ s.1 64 = s.1 64 ∧ ∃ ws, RIl ar nT wr hw H fx Dr Bd (its ++ ws) s ∧ (¬ (s.1 111).toInt = 0 → dn ar (eta Ev.1 Ev.2) (its ++ ws) C) := fun h => ⟨rfl, IFj_rf, rfl, [], by rw [List.append_nil]; exact hI, fun w => by rw [List.append_nil]; exact h w⟩
    -- a TYPE of it is added, then what stands behind
    rcases hN with ⟨k1, k2⟩ | ⟨k1, D, es, Cs, k, k2, ⟨k3, k4, k5⟩, k6⟩ | ⟨k1, C0, k, k2, k3⟩ | ⟨k1, C0, D, k, k2, k3, k4⟩ | ⟨k1, C0, Ai, Ys, ys, es, Cs, k, g, k2, k3, k4, ⟨k5, k6, k7⟩, ⟨k8, k9, k10⟩, k11⟩
    · rw [k1]
      exact ⟨fun hf => same (fun w => absurd hf w), fun _ _ => ⟨fun w => absurd rfl w, fun _ => same (fun _ => dn_no k2)⟩⟩
    · rw [k1]
      refine ⟨fun hf => same (fun w => absurd hf w), fun hf _ => ⟨fun _ _ => ⟨fun _ _ => ⟨fun _ => ?_, fun w => absurd rfl w⟩, fun w => absurd w (by decide)⟩, fun w => absurd w (by decide)⟩⟩
      have m2 : ((2, D, 0, [], 0) : Ins) ∈ C := by
        rw [k6]
        exact List.mem_cons_self
      have mC : ∀ I ∈ Cs.flatten, I ∈ C := fun I hI' => by
        rw [k6]
        exact List.mem_cons_of_mem _ (List.mem_append_left _ hI')
      have t2 : D ∈ tlI ((2, D, 0, [], 0) : Ins) := mem_tl (Or.inl rfl)
      have gD : TGo ar nT (Ev.1.length : Int) (Ev.2.length : Int) D := (hC.1 _ m2).1 D t2
      unfold ub_253_34
      rw [k1]
      refine fun _ => ⟨fun w => absurd w (by decide), fun _ _ => ?_⟩
      refine Par.imp (x_252 (D := D) hH hfx hI hV hT hT0 ha h24 hE gD hZ k2 h2 (fun h => hC.2.2 ⟨_, m2, Or.inl ⟨D, t2, h⟩⟩) (fun _ i hi => hC.2.1 _ (Or.inl ⟨_, m2, D, t2, i, hi, rfl⟩))) ?_
      rintro v u ⟨rfl, Fu, u64, ws, Iu, hu⟩
      refine ⟨rfl, ?_⟩
      unfold ub_253_47 ub_253_60
      rw [IFj_r Fu (q := 221) (by decide), IFj_r Fu (q := 224) (by decide), k1]
      refine fun _ => ⟨fun w => absurd rfl w, fun _ _ => ?_⟩
      refine Par.imp (x_254 (es := es) (Cs := Cs) (f := f) ih hZ (nCh_q (IFj_r Fu (by decide)) _ _ k3) k4 (fun i c B hc hB => nNd_j Fu (by omega) (k5 i c B hc hB)) (EVn_j Fu hV) (by rw [u64]; exact hT) hT0 Iu (okC_s mC hC) h2) ?_
      rintro v t ⟨rfl, Ft, t64, us, It, h3⟩
      rw [List.append_assoc] at It h3
      refine ⟨rfl, rfl, IFj_tr Fu Ft (Int.le_refl _), t64.trans u64, ws ++ us, It, fun w => ?_⟩
      obtain ⟨d1, d2⟩ := hu (fun z => w (Ft.2.2.2.2.2.2 z))
      rw [k6]
      refine dn_app (C := [(2, D, 0, [], 0)]) (dn_ty (Or.inl rfl) d1 (fun i hi => ?_)) (dn_app (h3 w) (dn_1 (show ¬ (3 : Int) = 2 by decide) (show ¬ (3 : Int) = 6 by decide) (show ¬ (3 : Int) = 5 by decide)))
      rw [← List.append_assoc]
      exact List.mem_append_left _ (d2 i hi)
    · rw [k1]
      refine ⟨fun hf => same (fun w => absurd hf w), fun hf _ => ⟨fun _ _ => ⟨fun _ _ => ⟨fun w => absurd w (by decide), fun _ _ => ?_⟩, fun w => absurd w (by decide)⟩, fun w => absurd w (by decide)⟩⟩
      have m0 : ∀ I ∈ C0, I ∈ C := fun I hI' => by
        rw [k3]
        exact List.mem_append_left _ hI'
      refine Par.imp (ih d s _ a2 e T its C0 k2 hV hT hT0 hI (okC_s m0 hC) h2) ?_
      rintro v u ⟨rfl, Fu, u64, ws, Iu, hu⟩
      refine ⟨rfl, ?_⟩
      unfold ub_253_34 ub_253_47 ub_253_60
      rw [IFj_r Fu (q := 221) (by decide), k1]
      refine fun _ => ⟨fun _ _ => ⟨fun _ => ⟨rfl, Fu, u64, ws, Iu, fun w => ?_⟩, fun w => absurd w (by decide)⟩, fun w => absurd rfl w⟩
      rw [k3]
      exact dn_app (hu w) (dn_1 (show ¬ (4 : Int) = 2 by decide) (show ¬ (4 : Int) = 6 by decide) (show ¬ (4 : Int) = 5 by decide))
    · rw [k1]
      refine ⟨fun hf => same (fun w => absurd hf w), fun hf _ => ⟨fun _ _ => ⟨fun _ _ => ⟨fun w => absurd w (by decide), fun _ _ => ?_⟩, fun w => absurd w (by decide)⟩, fun w => absurd w (by decide)⟩⟩
      have m0 : ∀ I ∈ C0, I ∈ C := fun I hI' => by
        rw [k4]
        exact List.mem_append_left _ hI'
      have m6 : ((6, D, k, [], 0) : Ins) ∈ C := by
        rw [k4]
        exact List.mem_append_right _ (List.mem_singleton.mpr rfl)
      have t6 : D ∈ tlI ((6, D, k, [], 0) : Ins) := mem_tl (Or.inr rfl)
      have gD : TGo ar nT (Ev.1.length : Int) (Ev.2.length : Int) D := (hC.1 _ m6).1 D t6
      refine Par.imp (ih d s _ a2 e T its C0 k2 hV hT hT0 hI (okC_s m0 hC) h2) ?_
      rintro v u ⟨rfl, Fu, u64, ws, Iu, hu⟩
      refine ⟨rfl, ?_⟩
      unfold ub_253_34
      rw [IFj_r Fu (q := 221) (by decide), IFj_r Fu (q := 229) (by decide), k1]
      refine fun _ => ⟨fun w => absurd w (by decide), fun _ _ => ?_⟩
      refine Par.imp (x_252 (D := D) (T := T) hH hfx Iu (EVn_j Fu hV) (by rw [u64]; exact hT) hT0 ha h24 hE gD hZ (RSe_x (fun q hq => IFj_r Fu (Or.inl hq)) (fun j hj => Fu.2.2.2.2.1 j (Or.inl (by omega))) k3) h2 (fun h => hC.2.2 ⟨_, m6, Or.inl ⟨D, t6, h⟩⟩) (fun _ i hi => hC.2.1 _ (Or.inl ⟨_, m6, D, t6, i, hi, rfl⟩))) ?_
      rintro v t ⟨rfl, Ft, t64, us, It, h3⟩
      rw [List.append_assoc] at It h3
      have Ft' : IFj T s t := IFj_tr Fu Ft (Int.le_refl _)
      refine ⟨rfl, ?_⟩
      unfold ub_253_47 ub_253_60
      rw [IFj_r Ft' (q := 221) (by decide), k1]
      refine fun _ => ⟨fun _ => ⟨rfl, Ft', t64.trans u64, ws ++ us, It, fun w => ?_⟩, fun w => absurd w (by decide)⟩
      obtain ⟨d1, d2⟩ := h3 w
      have d0 := dn_a (ws := us) (hu (fun z => w (Ft.2.2.2.2.2.2 z)))
      rw [List.append_assoc] at d0
      rw [k4]
      exact dn_app d0 (dn_ty (Or.inr rfl) d1 d2)
    · rw [k1]
      refine ⟨fun hf => same (fun w => absurd hf w), fun hf _ => ⟨fun _ _ => ⟨fun w => absurd rfl w, fun _ => ?_⟩, fun w => absurd w (by decide)⟩⟩
      refine Par.imp (x_255 ih hZ ha h24 hE hH hfx k2 k3 k4 k5 k6 k7 k8 k9 k10 k11 hV hT hT0 hI hC h2) ?_
      rintro v u hu
      exact ⟨hu.1, rfl, hu.2⟩
theorem AEn_all (hZ : Z ≤ 13000) (ha : ∀ c, 0 ≤ ar c ∧ ar c ≤ 7) (h24 : ∀ c, 24 ≤ c → ar c = 0) (hE : enK ar nT Ev) (hH : ∀ g g', g < H → g' < H → (wr g = wr g' ↔ hw g = hw g')) (hfx : ∀ c g g', g < H → g' < H → 0 ≤ fx c (hw g) → fx c (hw g) = fx c (hw g') → hw g = hw g') : ∀ f, AEn ar nT β0 β1 Z wr hw H fx Dr Bd Ev f
  | 0 => by
    intro d s a1 a2 e T its C hN
    exact hN.elim
  | f + 1 => AEn_s (AEn_all hZ ha h24 hE hH hfx f) hZ ha h24 hE hH hfx
end ZVUB
