/-! ===== the reference: instances: addMethod ===== -/
section ZVUA
variable {ar : Int → Int} {nT β0 β1 Z : Int} {wr hw : Nat → Int} {H : Nat} {fx : Int → Int → Int} {Dr : Mit → Prop} {Bd : Prop} {Ev : Env} {f : Nat} {s : yS} {a1 a2 : Int32} {e d : Nat} {T : Int} {its : List Mit} {C : List Ins}
theorem RWel_ap {s : yS} {p : Int} {E F : List Int} (h : RWel s p E) (g : RWel s (p + (E.length : Int)) F) : RWel s p (E ++ F) := fun i c hc => by
  by_cases hi : i < E.length
  · rw [List.getElem?_append_left hi] at hc
    exact h i c hc
  · rw [List.getElem?_append_right (by omega)] at hc
    rw [← g (i - E.length) c hc, show p + (E.length : Int) + ((i - E.length : Nat) : Int) = p + (i : Int) by omega]
theorem enI_app {A B : List Int} : enI ar (A ++ B) = enI ar A ++ enI ar B := List.map_append
theorem fl_snoc {X : List (List Int)} {k : Nat} {Y : List Int} (h : X[k]? = some Y) : (X.take (k + 1)).flatten = (X.take k).flatten ++ Y := by
  rw [List.take_add_one, h, List.flatten_append]
  congr 1
  show Y ++ [] = Y
  rw [List.append_nil]
set_option maxHeartbeats 4000000 in
theorem x_255 {C0 : List Ins} {Ai : List Int} {Ys : List (List Int)} {ys es : List Int} {Cs : List (List Ins)} {k : Int} {g : Nat} (ih : AEn ar nT β0 β1 Z wr hw H fx Dr Bd Ev f) (hZ : Z ≤ 13000) (ha : ∀ c, 0 ≤ ar c ∧ ar c ≤ 7) (h24 : ∀ c, 24 ≤ c → ar c = 0) (hE : enK ar nT Ev) (hH : ∀ g g', g < H → g' < H → (wr g = wr g' ↔ hw g = hw g')) (hfx : ∀ c g g', g < H → g' < H → 0 ≤ fx c (hw g) → fx c (hw g) = fx c (hw g') → hw g = hw g') (q2 : nNd ar β0 β1 Z wr hw H s f (s.2.1 227 a1.toInt.toNat).toInt C0) (q3 : (s.2.1 272 a1.toInt.toNat).toInt = (Ai.length : Int) ∧ ∀ (i : Nat) (c : Int), (Ai.map (rhE ar β0 β1))[i]? = some c → KI (s.2.1 270) ((s.2.1 271 a1.toInt.toNat).toInt + (i : Int)) = c) (q4 : g < H ∧ (s.2.1 217 (s.2.1 222 a1.toInt.toNat).toInt.toNat).toInt = wr g) (q5 : nCh s ys (s.2.1 229 a1.toInt.toNat).toInt) (q6 : Ys.length = ys.length) (q7 : ∀ (i : Nat) (y : Int) (Y : List Int), ys[i]? = some y → Ys[i]? = some Y → RSe s Z y (Y.map (rhE ar β0 β1))) (q8 : nCh s es (s.2.1 224 a1.toInt.toNat).toInt) (q9 : Cs.length = es.length) (q10 : ∀ (i : Nat) (c : Int) (B : List Ins), es[i]? = some c → Cs[i]? = some B → nNd ar β0 β1 Z wr hw H s f c B) (q11 : C = C0 ++ (Cs.flatten ++ [(5, Ai, k, Ys, hw g)])) (hV : EVn ar s e T β0 β1 Ev) (hT : (s.1 64).toInt = T) (hT0 : 100000 ≤ T) (hI : RIl ar nT wr hw H fx Dr Bd its s) (hC : okC ar nT (Ev.1.length : Int) (Ev.2.length : Int) Dr Bd (eta Ev.1 Ev.2) C) (h2 : a2.toInt = (e : Int)) : Par d 255 [.ref 213, .int a1, .int a2] s (fun v s' => v = none ∧ IFj T s s' ∧ s'.1 64 = s.1 64 ∧ ∃ ws, RIl ar nT wr hw H fx Dr Bd (its ++ ws) s' ∧ (¬ (s'.1 111).toInt = 0 → dn ar (eta Ev.1 Ev.2) (its ++ ws) C)) := by
  cases d with
  | zero => exact Par_0
  | succ d =>
    obtain ⟨M1, M2⟩ := RIl_M hI
    obtain ⟨η, hη⟩ : ∃ η, η = eta Ev.1 Ev.2 := ⟨_, rfl⟩
    obtain ⟨I5, hI5⟩ : ∃ I5 : Ins, I5 = (5, Ai, k, Ys, hw g) := ⟨_, rfl⟩
    have i51 : I5.1 = 5 := by rw [hI5]
    have i52 : I5.2.1 = Ai := by rw [hI5]
    have i53 : I5.2.2.2.1 = Ys := by rw [hI5]
    have i54 : I5.2.2.2.2 = hw g := by rw [hI5]
    rw [← hI5] at q11
    have m0 : ∀ I ∈ C0, I ∈ C := fun I hI' => by
      rw [q11]
      exact List.mem_append_left _ hI'
    have mC : ∀ I ∈ Cs.flatten, I ∈ C := fun I hI' => by
      rw [q11]
      exact List.mem_append_right _ (List.mem_append_left _ hI')
    have m5 : I5 ∈ C := by
      rw [q11]
      exact List.mem_append_right _ (List.mem_append_right _ (List.mem_singleton.mpr rfl))
    have gd5 := hC.1 I5 m5
    obtain ⟨gA, gl⟩ := gd5.2 i51
    have gY := gd5.1
    rw [tl_5 i51, i53] at gY
    rw [i52] at gA
    rw [i53] at gl
    have hDrT : ∀ Y ∈ Ys, ¬ 60 < (sbs (eta Ev.1 Ev.2) Y).length → ∀ i : Nat, i < (sbs (eta Ev.1 Ev.2) Y).length → Dr (0, subT ar (sbs (eta Ev.1 Ev.2) Y) i, 0, []) := fun Y hY _ i hi => hC.2.1 _ (Or.inl ⟨I5, m5, Y, by rw [tl_5 i51, i53]; exact hY, i, hi, rfl⟩)
    have hBdT : ∀ Y ∈ Ys, 60 < (sbs (eta Ev.1 Ev.2) Y).length → Bd := fun Y hY h => hC.2.2 ⟨I5, m5, Or.inl ⟨Y, by rw [tl_5 i51, i53]; exact hY, h⟩⟩
    have hBdA : 60 < (sbs (eta Ev.1 Ev.2) Ai).length → Bd := fun h => hC.2.2 ⟨I5, m5, Or.inr ⟨i51, by rw [i52]; exact h⟩⟩
    have hDrC : Dr (1, sbs (eta Ev.1 Ev.2) Ai, hw g, Ys.map (sbs (eta Ev.1 Ev.2))) := hC.2.1 _ (Or.inr ⟨I5, m5, i51, by rw [i52, i53, i54]⟩)
    rw [← hη] at hDrT hBdT hBdA hDrC ⊢
    suffices key : ∀ Q : Option Value → yS → Prop, (∀ s', IFj T s s' → s'.1 64 = s.1 64 → (∃ ws, RIl ar nT wr hw H fx Dr Bd (its ++ ws) s' ∧ (¬ (s'.1 111).toInt = 0 → dn ar η (its ++ ws) C)) → Q none s') → Par (d + 1) 255 [.ref 213, .int a1, .int a2] s Q from key _ (fun s' h1 h2 h3 => ⟨rfl, h1, h2, h3⟩)
    intro Q hQ
    refine pb_255 ?_
    unfold ub_255_0
    intro kb
    refine Par.imp (ih d s _ a2 e T its C0 q2 hV hT hT0 hI (okC_s m0 hC) h2) ?_
    rintro v1 s1 ⟨rfl, F1, s164, ws1, I1, hd1⟩
    rw [← hη] at hd1
    refine ⟨rfl, ?_⟩
    have T1 : (s1.1 64).toInt = T := by rw [s164]; exact hT
    have V1 := EVn_j F1 hV
    have N1 := RIl_M I1
    -- the E told
    have t120 : ∀ (b4 b5 b6 : Int32) (u : yS) (ws : List Mit), IFj T s u → RIl ar nT wr hw H fx Dr Bd (its ++ ws) u → (¬ (u.1 111).toInt = 0 → dn ar η (its ++ ws) C0 ∧ dn ar η (its ++ ws) [I5]) → ub_255_120 (Par d) a1 a2 (s1.1 64) b4 b5 b6 u Q := fun b4 b5 b6 u ws Fu Iu hu => by
      unfold ub_255_120
      intro s2 hs2 _
      have F : ∀ q, s2.1 q = if q = 64 then s1.1 64 else u.1 q := fun q => by rw [hs2, sfr_1]
      have r2 : s2.2 = u.2 := by rw [hs2, sfr_2]
      have F2 : IFj T s s2 := IFj_tr Fu (by rw [hs2]; exact IFj_64 (T := T)) (Int.le_refl _)
      have I2 : RIl ar nT wr hw H fx Dr Bd (its ++ ws) s2 := RIl_f Iu (by rw [F, if_neg (by decide)]) (by rw [F, if_neg (by decide)]) (fun q j _ _ _ => by rw [r2]) (fun j _ _ => by rw [r2]) (fun w => Iu.2.2.2.2 (by rw [F, if_neg (by decide)] at w; exact w))
      have e64 : (s2.1 64).toInt = T := by rw [F, if_pos rfl]; exact T1
      refine Par.imp (x_254 (es := es) (Cs := Cs) (f := f) ih hZ (by rw [IFj_r F2 (q := 224) (by decide)]; exact nCh_q (IFj_r F2 (by decide)) _ _ q8) q9 (fun i c B hc hB => nNd_j F2 (by omega) (q10 i c B hc hB)) (EVn_j F2 hV) e64 hT0 I2 (okC_s mC hC) h2) ?_
      rintro v t ⟨rfl, Ft, t64, us, It, h3⟩
      rw [← hη] at h3
      rw [List.append_assoc] at It h3
      refine ⟨rfl, hQ t (IFj_tr F2 Ft (Int.le_refl _)) (by rw [t64, F, if_pos rfl]; exact s164) ⟨ws ++ us, It, fun w => ?_⟩⟩
      have w2 : ¬ (s2.1 111).toInt = 0 := fun z => w (Ft.2.2.2.2.2.2 z)
      have wu : ¬ (u.1 111).toInt = 0 := by
        rw [F, if_neg (by decide)] at w2
        exact w2
      obtain ⟨d0, d5⟩ := hu wu
      have d0' := dn_a (ws := us) d0
      have d5' := dn_a (ws := us) d5
      rw [List.append_assoc] at d0' d5'
      rw [q11]
      exact dn_app d0' (dn_app (h3 w) d5')
    -- the TYPES told
    have t100 : ∀ (b4 b5 b6 : Int32) (u : yS) (ws : List Mit), IFj T s u → RIl ar nT wr hw H fx Dr Bd (its ++ ws) u → T ≤ (u.1 64).toInt → (¬ (u.1 111).toInt = 0 → dn ar η (its ++ ws) C0 ∧ ¬ 60 < (sbs η Ai).length ∧ (1, sbs η Ai, hw g, Ys.map (sbs η)) ∈ its ++ ws) → ub_255_100 (Par d) a1 a2 (s1.1 64) b4 b5 b6 u Q := fun b4 b5 b6 u ws Fu Iu hTu hu => by
      unfold ub_255_100
      intro _
      obtain ⟨T5, hT5⟩ : ∃ T5, T5 = (u.1 64).toInt := ⟨_, rfl⟩
      rw [← hT5] at hTu
      refine ⟨fun c1 c2 c3 c4 c5 c6 t => c1 = a1 ∧ c2 = a2 ∧ c3 = s1.1 64 ∧ ∃ (k : Nat) (us : List Mit), k ≤ ys.length ∧ nCh s (ys.drop k) c6.toInt ∧ IFj T s t ∧ (t.1 64).toInt = T5 ∧ RIl ar nT wr hw H fx Dr Bd (its ++ us) t ∧ (¬ (t.1 111).toInt = 0 → (dn ar η (its ++ us) C0 ∧ ¬ 60 < (sbs η Ai).length ∧ (1, sbs η Ai, hw g, Ys.map (sbs η)) ∈ its ++ us) ∧ ∀ (k' : Nat) (Y : List Int), k' < k → Ys[k']? = some Y → ¬ 60 < (sbs η Y).length ∧ ∀ i : Nat, i < (sbs η Y).length → (0, subT ar (sbs η Y) i, 0, []) ∈ its ++ us), ⟨rfl, rfl, rfl, 0, ws, Nat.zero_le _, by rw [IFj_r Fu (q := 229) (by decide)]; exact q5, Fu, hT5.symm, Iu, fun w => ⟨hu w, fun k' Y hk' _ => absurd hk' (Nat.not_lt_zero _)⟩⟩, ?_⟩
      rintro c1 c2 c3 c4 c5 c6 t ⟨e1, e2, e3, k, us, k1, k2, Ft, t64, It, k3⟩
      have e1 := e1.symm
      have e2 := e2.symm
      subst e1 e2 e3
      have fin : (¬ (t.1 111).toInt = 0 → ys.length ≤ k) → ub_255_120 (Par d) a1 a2 (s1.1 64) c4 c5 c6 t Q := fun hk => t120 _ _ _ t us Ft It (fun w => by
        obtain ⟨⟨w1, w2, w3⟩, w4⟩ := k3 w
        refine ⟨w1, dn_call i51 (by rw [i52]; exact w2) (by rw [i52, i53, i54]; exact w3) (fun Y hY => ?_)⟩
        rw [i53] at hY
        obtain ⟨j, hj⟩ := List.getElem?_of_mem hY
        have hjl := (List.getElem?_eq_some_iff.mp hj).1
        have := hk w
        exact w4 j Y (by omega) hj)
      unfold ub_255_105
      refine ⟨fun hneg => fin (fun _ => ?_), fun hpos => ⟨fun hf => fin (fun w => absurd hf w), fun hf => ?_⟩⟩
      · cases hdr : ys.drop k with
        | nil =>
          have := congrArg List.length hdr
          rw [List.length_drop] at this
          have h0 : ys.length - k = 0 := this
          omega
        | cons c cs =>
          rw [hdr] at k2
          have := k2.1
          omega
      · cases hdr : ys.drop k with
        | nil =>
          rw [hdr] at k2
          exact absurd k2 hpos
        | cons c cs =>
          rw [hdr] at k2
          have hck : ys[k]? = some c := by
            have := congrArg List.head? hdr
            rw [List.head?_drop] at this
            exact this
          have hkl := (List.getElem?_eq_some_iff.mp hck).1
          obtain ⟨Y, hY⟩ : ∃ Y, Ys[k]? = some Y := ⟨_, List.getElem?_eq_getElem (by omega)⟩
          have hYm := List.mem_of_getElem? hY
          have hz : c6.toInt = c := k2.1.1
          have rsY : RSe t Z c6.toInt (Y.map (rhE ar β0 β1)) := by
            rw [hz]
            exact RSe_x (fun q hq => IFj_r Ft (Or.inl hq)) (fun j hj => Ft.2.2.2.2.1 j (Or.inl (by omega))) (q7 k c Y hck hY)
          have hB' := hBdT Y hYm
          have hD' := hDrT Y hYm
          rw [hη] at hB' hD'
          refine Par.imp (x_252 (D := Y) (T := T5) (e := e) hH hfx It (EVn_T hTu (EVn_j Ft hV)) t64 (by omega) ha h24 hE (gY Y hYm) hZ rsY h2 hB' hD') ?_
          rintro v w ⟨rfl, Fw, w64, vs, Iw, h3⟩
          rw [← hη] at h3
          rw [List.append_assoc] at Iw h3
          have Fw' : IFj T s w := IFj_tr Ft Fw hTu
          refine ⟨rfl, fun _ => ⟨rfl, rfl, rfl, k + 1, us ++ vs, by omega, ?_, Fw', by rw [w64]; exact t64, Iw, fun z => ?_⟩⟩
          · have hd := drop_get hck
            rw [hd] at hdr
            rw [(List.cons.inj hdr).2, IFj_r Fw' (q := 225) (by decide), hz]
            exact k2.2
          · obtain ⟨⟨w1, w2, w3⟩, w4⟩ := k3 hf
            obtain ⟨z1, z2⟩ := h3 z
            refine ⟨⟨by rw [← List.append_assoc]; exact dn_a w1, w2, by rw [← List.append_assoc]; exact List.mem_append_left _ w3⟩, fun k' Y' hk' hY' => ?_⟩
            by_cases ek : k' = k
            · rw [ek, hY] at hY'
              rw [← Option.some.inj hY']
              exact ⟨z1, z2⟩
            · obtain ⟨y1, y2⟩ := w4 k' Y' (by omega) hY'
              exact ⟨y1, fun i hi => by rw [← List.append_assoc]; exact List.mem_append_left _ (y2 i hi)⟩
    -- its row
    have t81 : ∀ (b4 b5 b6 : Int32) (u : yS) (ws : List Mit), IFj T s u → RIl ar nT wr hw H fx Dr Bd (its ++ ws) u → (T ≤ b4.toInt ∧ T ≤ (u.1 64).toInt) → (¬ (u.1 111).toInt = 0 → (dn ar η (its ++ ws) C0 ∧ ¬ 60 < (sbs η Ai).length ∧ ∀ Y ∈ Ys, ¬ 60 < (sbs η Y).length) ∧ b5.toInt = (Ys.length : Int) + 1 ∧ (u.1 64).toInt = b4.toInt + ((sbs η Ai ++ (Ys.map (sbs η)).flatten).length : Int) ∧ (sbs η Ai ++ (Ys.map (sbs η)).flatten).length ≤ 480 ∧ RWel u b4.toInt (enI ar (sbs η Ai ++ (Ys.map (sbs η)).flatten))) → ub_255_81 (Par d) a1 a2 (s1.1 64) b4 b5 b6 u Q := fun b4 b5 b6 u ws Fu Iu hTu hu => by
      unfold ub_255_81
      refine ⟨fun hf => t100 _ _ _ u ws Fu Iu hTu.2 (fun w => absurd hf w), fun hf _ _ _ x1 hx1 => ?_⟩
      obtain ⟨⟨w1, w2, w3⟩, w4, w5, w6, w7⟩ := hu hf
      have tgA : TGo ar nT 0 0 (sbs η Ai) := by
        rw [hη] at w2 ⊢
        exact TGo_sb h24 hE gA (by omega)
      have tgY : ∀ B ∈ Ys.map (sbs η), TGo ar nT 0 0 B := fun B hB => by
        obtain ⟨Y, hY, rfl⟩ := List.mem_map.mp hB
        have := w3 Y hY
        rw [hη] at this ⊢
        exact TGo_sb h24 hE (gY Y hY) (by omega)
      have hml : (Ys.map (sbs η)).length = Ys.length := List.length_map _
      rw [IFj_r Fu (q := 222) (by decide), IFj_r Fu (q := 217) (by decide)]
      refine Par.imp (x_250 (E := enI ar (sbs η Ai ++ (Ys.map (sbs η)).flatten)) (y := (1, sbs η Ai, hw g, Ys.map (sbs η))) ha hH hfx Iu ⟨⟨show (1 : Int32).toInt = ((1 : Nat) : Int) by decide, by show b5.toInt = ((Ys.map (sbs η)).length : Int) + 1; rw [hml]; exact w4, by show (Ys.map (sbs η)).length ≤ 6; rw [hml]; exact gl, rfl⟩, ⟨tgA, tgY⟩, Or.inr (Or.inl ⟨rfl, g, q4.1, q4.2, rfl⟩)⟩ (by rw [enI_len]; omega) (by rw [enI_len]; exact w6) w7 ⟨by omega, Or.inr (by omega)⟩ hDrC) ?_
      rintro v w ⟨rfl, fk, Fw, us, Iw, hy, -⟩
      rw [List.append_assoc] at Iw hy
      refine ⟨rfl, t100 _ _ _ w (ws ++ us) (IFj_tr Fu (Fw T) (Int.le_refl _)) Iw (by rw [fk 64 (by decide) (by decide) (by decide)]; exact hTu.2) (fun z => ⟨by rw [← List.append_assoc]; exact dn_a w1, w2, hy z⟩)⟩
    -- the TYPES told, put
    have t59 : ∀ (b4 : Int32) (t1 : Int32) (u : yS), IFj T s u → RIl ar nT wr hw H fx Dr Bd (its ++ ws1) u → (T ≤ b4.toInt ∧ b4.toInt ≤ (u.1 64).toInt) → (t1.toInt = 0 → (u.1 111).toInt = 0 ∨ Bd) → (¬ t1.toInt = 0 → ¬ (u.1 111).toInt = 0 ∧ dn ar η (its ++ ws1) C0 ∧ ¬ 60 < (sbs η Ai).length ∧ (u.1 64).toInt = b4.toInt + ((sbs η Ai).length : Int) ∧ RWel u b4.toInt (enI ar (sbs η Ai))) → ub_255_59 (Par d) a1 a2 (s1.1 64) b4 t1 u Q := fun b4 t1 u Fu Iu hTu h0 h1 => by
      unfold ub_255_59
      intro ht1 f0 hf0 _
      have F : ∀ q, f0.1 q = if q = 111 then t1 else u.1 q := fun q => by rw [hf0, sfr_1]
      have r0 : f0.2 = u.2 := by rw [hf0, sfr_2]
      have Ff : IFj T s f0 := by
        refine IFj_tr Fu ?_ (Int.le_refl _)
        rw [hf0]
        by_cases z : t1.toInt = 0
        · exact IFj_fl (T := T) (Or.inr z)
        · exact IFj_fl (T := T) (Or.inl (h1 z).1)
      have If : RIl ar nT wr hw H fx Dr Bd (its ++ ws1) f0 := RIl_f Iu (by rw [F, if_neg (by decide)]) (by rw [F, if_neg (by decide)]) (fun q j _ _ _ => by rw [r0]) (fun j _ _ => by rw [r0]) (fun w => by
        rw [F, if_pos rfl] at w
        rcases h0 w with z | z
        · exact Iu.2.2.2.2 z
        · exact Or.inl z)
      have f64 : f0.1 64 = u.1 64 := by rw [F, if_neg (by decide)]
      refine ⟨fun c1 c2 c3 c4 c5 c6 t => c1 = a1 ∧ c2 = a2 ∧ c3 = s1.1 64 ∧ c4 = b4 ∧ ∃ k : Nat, k ≤ ys.length ∧ c5.toInt = (k : Int) + 1 ∧ nCh s (ys.drop k) c6.toInt ∧ IFj T s t ∧ RIl ar nT wr hw H fx Dr Bd (its ++ ws1) t ∧ b4.toInt ≤ (t.1 64).toInt ∧ (¬ (t.1 111).toInt = 0 → (dn ar η (its ++ ws1) C0 ∧ ¬ 60 < (sbs η Ai).length) ∧ (∀ (k' : Nat) (Y : List Int), k' < k → Ys[k']? = some Y → ¬ 60 < (sbs η Y).length) ∧ (t.1 64).toInt = b4.toInt + ((sbs η Ai ++ ((Ys.map (sbs η)).take k).flatten).length : Int) ∧ (((Ys.map (sbs η)).take k).flatten).length ≤ 60 * k ∧ RWel t b4.toInt (enI ar (sbs η Ai ++ ((Ys.map (sbs η)).take k).flatten))), ⟨rfl, rfl, rfl, rfl, 0, Nat.zero_le _, by decide, by rw [IFj_r Ff (q := 229) (by decide)]; exact q5, Ff, If, by rw [f64]; exact hTu.2, fun w => ?_⟩, ?_⟩
      · have z : ¬ t1.toInt = 0 := by
          rw [F, if_pos rfl] at w
          exact w
        obtain ⟨-, u1, u2, u3, u4⟩ := h1 z
        have e0 : sbs η Ai ++ ((Ys.map (sbs η)).take 0).flatten = sbs η Ai := List.append_nil _
        refine ⟨⟨u1, u2⟩, fun k' Y hk' _ => absurd hk' (Nat.not_lt_zero _), ?_, Nat.zero_le _, ?_⟩
        · rw [f64, e0]
          exact u3
        · rw [e0]
          intro i c hc
          rw [r0]
          exact u4 i c hc
      rintro c1 c2 c3 c4 c5 c6 t ⟨e1, e2, e3, e4, k, k1, k2, k3, Ft, It, t64, kh⟩
      have e1 := e1.symm
      have e2 := e2.symm
      have e4 := e4.symm
      subst e1 e2 e3 e4
      unfold ub_255_67
      refine ⟨fun hneg => ?_, fun hpos => ?_⟩
      · have ek : ys.length ≤ k := by
          cases hdr : ys.drop k with
          | nil =>
            have := congrArg List.length hdr
            rw [List.length_drop] at this
            have h0 : ys.length - k = 0 := this
            omega
          | cons c cs =>
            rw [hdr] at k3
            have := k3.1
            omega
        refine t81 _ _ _ t ws1 Ft It ⟨hTu.1, by omega⟩ (fun w => ?_)
        obtain ⟨⟨w1, w2⟩, w3, w4, w5, w6⟩ := kh w
        have etk : (Ys.map (sbs η)).take k = Ys.map (sbs η) := List.take_of_length_le (by rw [List.length_map]; omega)
        rw [etk] at w4 w5 w6
        refine ⟨⟨w1, w2, fun Y hY => ?_⟩, by omega, w4, by rw [List.length_append]; omega, w6⟩
        obtain ⟨j, hj⟩ := List.getElem?_of_mem hY
        have hjl := (List.getElem?_eq_some_iff.mp hj).1
        exact w3 j Y (by omega) hj
      · cases hdr : ys.drop k with
        | nil =>
          rw [hdr] at k3
          exact absurd k3 hpos
        | cons c cs =>
          rw [hdr] at k3
          have hck : ys[k]? = some c := by
            have := congrArg List.head? hdr
            rw [List.head?_drop] at this
            exact this
          have hkl := (List.getElem?_eq_some_iff.mp hck).1
          obtain ⟨Y, hY⟩ : ∃ Y, Ys[k]? = some Y := ⟨_, List.getElem?_eq_getElem (by omega)⟩
          have hYm := List.mem_of_getElem? hY
          have hz : c6.toInt = c := k3.1.1
          have rsY : RSe t Z c6.toInt (Y.map (rhE ar β0 β1)) := by
            rw [hz]
            exact RSe_x (fun q hq => IFj_r Ft (Or.inl hq)) (fun j hj => Ft.2.2.2.2.1 j (Or.inl (by omega))) (q7 k c Y hck hY)
          have hB' := hBdT Y hYm
          rw [hη] at hB'
          refine Par.imp (x_251 (D := Y) (T := (t.1 64).toInt) (e := e) It (EVn_T (by omega) (EVn_j Ft hV)) rfl (by omega) ha hE (gY Y hYm) hZ rsY h2 hB') ?_
          rintro v w ⟨Fw, Iw, ⟨w12, w18⟩, x3, rfl, hx⟩
          rw [← hη] at hx
          have Fw' : IFj T s w := IFj_tr Ft Fw (by omega)
          refine ⟨x3, rfl, fun h0 => ?_, fun h0 _ x4 hx4 _ => ?_⟩
          · rcases hx with ⟨-, p1, p2⟩ | ⟨q, -⟩
            · exact t81 _ _ _ w ws1 Fw' Iw ⟨hTu.1, by rw [p2]; omega⟩ (fun z => absurd p1 z)
            · exact absurd h0 q
          · obtain ⟨-, p1, p2, p3, p4, p5, p6, p7⟩ := hx.resolve_left (fun z => h0 z.1)
            obtain ⟨⟨w1, w2⟩, w3, w4, w5, w6⟩ := kh p2
            have hms : (Ys.map (sbs η))[k]? = some (sbs η Y) := by
              rw [List.getElem?_map, hY]
              rfl
            have efl := fl_snoc hms
            refine ⟨rfl, rfl, rfl, rfl, k + 1, by omega, by omega, ?_, Fw', Iw, by omega, fun z => ⟨⟨w1, w2⟩, fun k' Y' hk' hY' => ?_, ?_, ?_, ?_⟩⟩
            · have hd := drop_get hck
              rw [hd] at hdr
              rw [(List.cons.inj hdr).2, IFj_r Fw' (q := 225) (by decide), hz]
              exact k3.2
            · by_cases ek : k' = k
              · rw [ek, hY] at hY'
                rw [← Option.some.inj hY']
                omega
              · exact w3 k' Y' (by omega) hY'
            · rw [efl, ← List.append_assoc, List.length_append, p6, w4]
              omega
            · rw [efl, List.length_append]
              omega
            · rw [efl, ← List.append_assoc, enI_app]
              refine RWel_ap (IFj_el Fw (by omega) (Or.inr ⟨by omega, by rw [enI_len]; omega⟩) w6) ?_
              rw [enI_len, ← w4]
              exact p7
    -- the TYPE, copied
    obtain ⟨Ae, hAe⟩ : ∃ Ae, Ae = Ai.map (rhE ar β0 β1) := ⟨_, rfl⟩
    have lAe : Ae.length = Ai.length := by rw [hAe]; exact List.length_map _
    obtain ⟨q31, q32⟩ := q3
    rw [← hAe] at q32
    refine ⟨fun c1 c2 c3 c4 u => c1 = a1 ∧ c2 = a2 ∧ c3 = s1.1 64 ∧ (∀ q, ¬ q = 64 → u.1 q = s1.1 q) ∧ u.2.2 = s1.2.2 ∧ (∀ q j : Nat, ¬ (q = 264 ∧ T ≤ (j : Int)) → u.2.1 q j = s1.2.1 q j) ∧ ∃ i : Nat, c4.toInt = (i : Int) ∧ i ≤ Ae.length ∧ (u.1 64).toInt = T + (i : Int) ∧ RWel u T (Ae.take i), ⟨rfl, rfl, rfl, fun _ _ => rfl, rfl, fun _ _ _ => rfl, 0, by decide, Nat.zero_le _, by omega, fun j c hc => by cases hc⟩, ?_⟩
    rintro c1 c2 c3 c4 u ⟨e1, e2, e3, k1, k2, k3, i, i1, i2, i3, i4⟩
    have e1 := e1.symm
    have e2 := e2.symm
    subst e1 e2 e3
    have Fu1 : IFj T s1 u := ⟨fun q z _ _ _ _ _ => k1 q z, k2, fun q j hq => k3 q j (by omega), fun q j z1 z2 _ => k3 q j (by omega), fun j hj => k3 264 j (by omega), ⟨by rw [k1 112 (by decide)]; exact Int.le_refl _, by rw [k1 118 (by decide)]; exact Int.le_refl _⟩, fun z => by rw [k1 111 (by decide)]; exact z⟩
    have Fu : IFj T s u := IFj_tr F1 Fu1 (Int.le_refl _)
    have Iu : RIl ar nT wr hw H fx Dr Bd (its ++ ws1) u := RIl_j I1 Fu1 (k1 112 (by decide)) (k1 118 (by decide)) (fun w => I1.2.2.2.2 (by rw [← k1 111 (by decide)]; exact w))
    have rr : ∀ q, (264 < q ∧ q < 279) → u.2.1 q = s.2.1 q := fun q hq => IFj_r Fu (Or.inr hq)
    unfold ub_255_12
    intro kb'
    rw [rr 272 (by decide), rr 271 (by decide), rr 270 (by decide)]
    refine ⟨fun hend => ⟨fun hf => ?_, fun hf _ => ?_⟩, fun hmore _ _ x4 hx4 kb4 kb64 s5 hs5 _ x6 hx6 s7 hs7 _ x8 hx8 => ?_⟩
    · unfold ub_255_58
      exact t59 _ 0 u Fu Iu ⟨by omega, Int.le_refl _⟩ (fun _ => Or.inl hf) (fun z => absurd (by decide) z)
    · have ei : i = Ae.length := by omega
      rw [ei, List.take_length] at i4
      obtain ⟨c0, c1', v1, v2, -⟩ := EVn_T (T' := (u.1 64).toInt) (by omega) (EVn_j Fu hV)
      refine Par.imp (x_191 (e := e) (c0 := c0) (c1 := c1') (E := Ae) rfl v1 h2 (by omega) ⟨by omega, by omega⟩ (by rw [T1]; exact i4)) ?_
      rintro v' w ⟨pk, x3, rfl, hx⟩
      rw [hAe, put_rp ha hE v2 gA, enI_len, ← hη] at hx
      refine ⟨x3, rfl, fun h0 => ?_, fun h0 => ?_⟩
      · rcases hx with ⟨-, p1, p2⟩ | ⟨q, -⟩
        · have Fw : IFj (u.1 64).toInt u w := IFj_pk pk (fun q _ _ _ => by rw [p2]) (by rw [k1 118 (by decide)]; omega)
          have Iw := RIl_j Iu Fw (by rw [p2]) (by rw [p2]) (fun z => Iu.2.2.2.2 (by rw [← p2]; exact z))
          unfold ub_255_58
          exact t59 _ 0 w (IFj_tr Fu Fw (by omega)) Iw ⟨by omega, by rw [p2]; exact Int.le_refl _⟩ (fun _ => Or.inr (hBdA p1)) (fun z => absurd (by decide) z)
        · omega
      · rcases hx with ⟨q, -⟩ | ⟨-, p1, p2, p3, p4, p5, p6⟩
        · omega
        · have Fw : IFj (u.1 64).toInt u w := IFj_pk pk p5 (by rw [k1 118 (by decide)]; omega)
          have Iw := RIl_j Iu Fw (p5 112 (by decide) (by decide) (by decide)) (p5 118 (by decide) (by decide) (by decide)) (fun z => Iu.2.2.2.2 (by rw [← p5 111 (by decide) (by decide) (by decide)]; exact z))
          refine t59 _ 1 w (IFj_tr Fu Fw (by omega)) Iw ⟨by omega, by omega⟩ (fun z => absurd z (by decide)) (fun _ => ⟨by rw [p5 111 (by decide) (by decide) (by decide)]; exact hf, hd1 (by rw [← k1 111 (by decide)]; exact hf), by omega, p4, p6⟩)
    · have hi : i < Ae.length := by omega
      obtain ⟨c, hc⟩ : ∃ c, Ae[i]? = some c := ⟨_, List.getElem?_eq_getElem hi⟩
      have vc : (s.2.1 270 x4.toInt.toNat).toInt = c := by
        rw [← q32 i c hc, KI_p (by omega), show x4.toInt.toNat = ((s.2.1 271 a1.toInt.toNat).toInt + (i : Int)).toNat by omega]
      have h1 : s5.1 = u.1 := by rw [hs5, sa_1r]
      have F7 : ∀ q, s7.1 q = if q = 64 then x6 else u.1 q := fun q => by rw [hs7, sfr_1, h1]
      have r7 : ∀ q j, s7.2.1 q j = if q = 264 ∧ j = (u.1 64).toInt.toNat then s.2.1 270 x4.toInt.toNat else u.2.1 q j := fun q j => by
        rw [hs7, sfr_2, hs5, sa_21]
      rw [h1] at hx6
      refine ⟨rfl, rfl, rfl, fun q z => by rw [F7, if_neg z]; exact k1 q z, ?_, fun q j z => by rw [r7, if_neg (fun w => z ⟨w.1, by omega⟩)]; exact k3 q j z, i + 1, by omega, by omega, by rw [F7, if_pos rfl]; omega, ?_⟩
      · rw [hs7, hs5]
        exact k2
      · rw [take_s hc]
        have hlk : (Ae.take i).length = i := by rw [List.length_take]; omega
        have := RWel_s (y := (u.1 64).toInt.toNat) (by omega) (by omega) vc i4
        intro j c' hj
        rw [hs7, sfr_2, hs5]
        exact this j c' hj
end ZVUA
