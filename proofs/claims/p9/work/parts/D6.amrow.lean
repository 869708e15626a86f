/-! ===== addMethod: its row ===== -/
section AM3
variable {own : Nat → Nat × Nat} {b n N T F H S0 : Nat} {G : PG} {S O R M P E : Nat} {s w : yS}
theorem wY_okBa {sc : Nat → Prop} {x : Int} {lo hi : Nat} {Zs : List (List Nat)} (h : wY G b sc S s x lo hi Zs) : ∀ B ∈ Zs, okE G sc B ∧ okBa G B := by
  obtain ⟨ys, -, h2, h3⟩ := h
  intro B hB
  obtain ⟨k, hk⟩ := List.mem_iff_getElem?.mp hB
  have hkl : k < Zs.length := by
    by_cases q : k < Zs.length
    · exact q
    · rw [List.getElem?_eq_none (by omega)] at hk
      cases hk
  obtain ⟨-, -, B', b1, -, -, -, -, -, -, b2⟩ := h3 k ys[k] (List.getElem?_eq_getElem (by omega))
  rw [hk] at b1
  rw [Option.some.inj b1]
  exact b2
theorem am67 {d e m m' hm hi ev b0 b1 R1 M1 Q p4 t : Nat} {As Bs Zs : List (List Nat)} {A0 : List Nat} {fT : Nat → List Nat} {fo : Option Nat} {a1 a2 a3 a4 : Int32} (ih : AEH own b n N T F H S0 G S O m d) (hm6 : m' ≤ 6) (hX : JF jK R M P E s w) (hW : RW G R1 M1 w) (hR : R ≤ R1) (hM : M ≤ M1) (h64 : (w.1 64).toInt = (Q : Int)) (hp4 : P ≤ p4) (hp5 : p4 ≤ P + 60) (hQ : p4 ≤ Q) (hQ2 : Q ≤ p4 + 60) (hI : IWm own b n N T F H S0 G S R M P s) (hV : JE s ev P b0 As b1 Bs) (hev : ev < E) (hE : E ≤ 280) (hτ : wEnv G (scX G fo) (envS b0 As b1 Bs)) (hok : ∀ c A, envS b0 As b1 Bs c = some A → okL G 1 A) (hA0 : okE G (scX G fo) A0) (hRM : RM G (s.2.1 217 t).toInt (subs (envS b0 As b1 Bs) A0) (Zs.map (subs (envS b0 As b1 Bs)))) (hfo : ∀ f, fo = some f → f < F) (hY : wY G b (scX G fo) S s (s.2.1 229 e).toInt e hm Zs) (hZ : Zs.length ≤ 6) (hL : wL G s (wE G H b n (scX G fo) (tVX G fo) S O s m) (s.2.1 224 e).toInt hm hi m' fT) (h12 : hi ≤ 12006) (hmh : hm ≤ hi) (he : e < 12006) (hP : P + 600 ≤ 199000) (hO : O ≤ 120000) (h1 : a1.toInt = (e : Int)) (h2 : a2.toInt = (ev : Int)) (h3 : a3 = s.1 64) (h4 : a4.toInt = (p4 : Int)) (h22 : (s.2.1 222 e).toInt = (t : Int)) (ht : t < 12006) (hrow : ¬ (w.1 111).toInt = 0 → seg w p4 (Q - p4) = subs (envS b0 As b1 Bs) A0) : wl_255_67 (Tot (d + 4)) a1 a2 a3 a4 1 (s.2.1 229 e) w (AEP own b n N T F H S0 G S R M P E s) := by
  obtain ⟨c1, c2, c3, c4, c5, c6⟩ := id hI
  obtain ⟨M92, M20⟩ := RW_M c2
  have hg : gT G ≤ 24 := c1.2.2.2.2.2.2.2.2.1.1.1
  have hWG := c1.2.2.2.2.2.2.2.2.1
  have gF' : gF G = F := by rw [← c1.2.2.2.2.2.2.2.1]; exact (pgA c1.1).2.1
  have hsc := scX_ok hWG gF' hfo
  have okZ := wY_okBa hY
  obtain ⟨-, a0F, a0V⟩ := wEnv_ok hg hτ hA0
  have row : (subs (envS b0 As b1 Bs) A0 ++ (Zs.map (subs (envS b0 As b1 Bs))).flatten).length ≤ 420 → RK G 1 (s.2.1 217 t).toInt (Zs.length + 1) (subs (envS b0 As b1 Bs) A0 ++ (Zs.map (subs (envS b0 As b1 Bs))).flatten) := by
    intro h420
    have okD : ∀ D ∈ Zs.map (subs (envS b0 As b1 Bs)), okL G 1 D := fun D hD => by
      obtain ⟨C, h1, rfl⟩ := List.mem_map.mp hD
      exact okL_subs hWG hsc hτ hok _ C (Nat.le_refl _) (okZ C h1).1 (okZ C h1).2
    have oF := okL_flat okD
    rw [List.length_map] at oF
    refine ⟨by rw [Nat.add_comm]; exact isF_app a0F oF.1, fun x hx => (List.mem_append.mp hx).elim (a0V x) (oF.2.1 x), fun z => absurd z (by decide), fun _ => ⟨h420, _, _, rfl, a0F, okD, by rw [List.length_map], hRM⟩⟩
  obtain ⟨ys, y1, y2, y3⟩ := id hY
  refine ⟨fun z1 z2 z3 z4 z5 z6 f => z1 = a1 ∧ z2 = a2 ∧ z3 = a3 ∧ z4 = a4 ∧ ∃ (k q : Nat), k ≤ ys.length ∧ z5.toInt = (k : Int) + 1 ∧ chn s z6.toInt (ys.drop k) ∧ JF jK R M P E s f ∧ RW G R1 M1 f ∧ (f.1 64).toInt = (q : Int) ∧ p4 ≤ q ∧ q ≤ p4 + 60 + 60 * k ∧ (¬ (f.1 111).toInt = 0 → seg f p4 (q - p4) = subs (envS b0 As b1 Bs) A0 ++ ((Zs.take k).map (subs (envS b0 As b1 Bs))).flatten), fun _ _ _ _ _ z6 _ => chf s 10 z6.toInt, ⟨rfl, rfl, rfl, rfl, 0, Q, by omega, by decide, y1, hX, hW, h64, hQ, by omega, fun z => by rw [hrow z]; exact (List.append_nil _).symm⟩, ?_⟩
  clear hrow hQ hQ2 h64 hW hX
  rintro z1 z2 z3 z4 z5 z6 f ⟨e1, e2, e3, e4, k, q, k1, k2, k3, k4, k5, k6, k7, k8, k9⟩
  have e1 := e1.symm
  have e2 := e2.symm
  have e3 := e3.symm
  have e4 := e4.symm
  subst e1 e2 e3 e4
  have fin : ∀ (g : yS) (q' : Nat), JF jK R M P E s g → RW G R1 M1 g → (g.1 64).toInt = (q' : Int) → p4 ≤ q' → q' ≤ p4 + 60 + 60 * k → (¬ (g.1 111).toInt = 0 → k = Zs.length ∧ seg g p4 (q' - p4) = subs (envS b0 As b1 Bs) A0 ++ (Zs.map (subs (envS b0 As b1 Bs))).flatten) → w_255_81 (Tot (d + 4)) a1 a2 a3 a4 z5 z6 g (AEP own b n N T F H S0 G S R M P E s) := by
    intro g q' gJ gW g64 q1 q2 gr
    have tail : ∀ (g' : yS) (R2 M2 : Nat), JF jK R M P E s g' → RW G R2 M2 g' → R ≤ R2 → M ≤ M2 → (g'.1 64).toInt = (q' : Int) → w_255_100 (Tot (d + 4)) a1 a2 a3 a4 z5 z6 g' (AEP own b n N T F H S0 G S R M P E s) := fun g' R2 M2 j1 j2 j3 j4 j5 => am100 (Q := q') (fT := fT) ih hm6 j1 j2 j3 j4 j5 (by omega) (by omega) hI hV hev hE hτ hok hfo hY hZ hL h12 hmh he hP hO h1 h2 h3
    unfold w_255_81
    have r22 : g.2.1 222 = s.2.1 222 := JF_row gJ (by decide)
    rw [show a1.toInt.toNat = e by omega, r22]
    refine ⟨fun _ => tail g R1 M1 gJ gW hR hM g64, fun hne => ⟨by omega, by omega, by omega, fun x1 hx1 => ?_⟩⟩
    obtain ⟨r1, r2⟩ := gr hne
    refine Tot.imp (Tot.mono (by omega) (s_250 (d := 0) (p := p4) (l := q' - p4) (m := Zs.length + 1) gW gJ.2.2.2.1 (by omega) h4 (by omega) (by omega) (Or.inr (by omega)) (by rw [r2, JF_row gJ (q := 217) (by decide), h22]; exact row (by rw [← r2, seg_len]; omega)))) ?_
    rintro v g' ⟨rfl, gM, R2, M2, gW', j1, j2⟩
    refine ⟨rfl, tail g' R2 M2 (JF_tr gJ (JF_mfr (P := P) (E := E) gM gJ.2.2.2.2) (by decide) hR hM (Nat.le_refl _) (Nat.le_refl _)) gW' (by omega) (by omega) ?_⟩
    rw [gM.1 64 (by decide)]
    exact g64
  unfold w_255_67
  refine ⟨fun hneg => fin f q k4 k5 k6 k7 k8 (fun z => ?_), fun hpos => ?_⟩
  · have ek : k = Zs.length := by
      cases hdr : ys.drop k with
      | nil =>
        have := List.length_drop (i := k) (l := ys)
        rw [hdr] at this
        have : 0 = ys.length - k := this
        omega
      | cons y ys' =>
        rw [hdr] at k3
        have hz : z6.toInt = (y : Int) := k3.1
        omega
    refine ⟨ek, ?_⟩
    have := k9 z
    rw [ek, List.take_length] at this
    exact this
  cases hdr : ys.drop k with
  | nil =>
    rw [hdr] at k3
    have : z6.toInt = -1 := k3
    omega
  | cons y ys' =>
    have hyk : ys[k]? = some y := by
      have := congrArg List.head? hdr
      rw [List.head?_drop] at this
      exact this
    have hkl : k < ys.length := by
      by_cases z : k < ys.length
      · exact z
      · rw [List.getElem?_eq_none (by omega)] at hyk
        cases hyk
    obtain ⟨p1, p2, B, p3, p5⟩ := y3 k y hyk
    have k3' := k3
    rw [hdr] at k3
    have hz : z6.toInt = (y : Int) := k3.1
    have okB : okE G (scX G fo) B := by
      obtain ⟨-, -, -, -, -, -, z, -⟩ := p5
      exact z
    obtain ⟨-, bF, bV⟩ := wEnv_ok hg hτ okB
    have fV : JE f ev q b0 As b1 Bs := JE_jf hV k4 hev (by omega)
    have fT' : wT G b (scX G fo) S f y B := wT_eq (lo := y) (hi := y + 1) (JF_CA (b := b) (n := n) (O := O) k4 c6 M20 c4) (Nat.le_refl _) (Nat.le_refl _) (by omega) p5
    refine Tot.imp (Tot.mono (by omega) (s_251 (d := d) (E := E) k5 k4.2.2.2.1 k4.2.2.2.2 k6 (by omega) (by omega) fT' fV.1 (by omega) hz h2)) ?_
    rintro v g ⟨x3, rfl, gJ0, gW, hr⟩
    have gJ : JF jK R M P E s g := JF_tr k4 gJ0 (by decide) hR hM (by omega) (Nat.le_refl _)
    refine ⟨x3, rfl, fun hx => ?_, fun hx => ?_⟩
    · rcases hr with ⟨-, g111, g64⟩ | ⟨g1, -⟩
      · exact fin g q gJ gW (by rw [g64]; exact k6) k7 k8 (fun w => absurd g111 w)
      · omega
    · rcases hr with ⟨g1, -⟩ | ⟨-, g111, f111, N1, n1, n2, n3, n4, n5, n6⟩
      · exact absurd g1 hx
      · have e25 : g.2.1 225 = s.2.1 225 := JF_row gJ (by decide)
        have hn : chn s (s.2.1 225 y).toInt (ys.drop (k + 1)) := by
          have hd := drop_get hyk
          rw [hd] at hdr
          rw [(List.cons.inj hdr).2]
          exact k3.2
        refine ⟨by omega, fun x4 hx4 => ⟨by omega, ?_⟩⟩
        rw [e25, show z6.toInt.toNat = y by omega]
        refine ⟨⟨rfl, rfl, rfl, rfl, k + 1, q + N1, by omega, by omega, hn, gJ, gW, by omega, by omega, by omega, fun _ => ?_⟩, ?_⟩
        · have s1 : seg g p4 (q - p4) = seg f p4 (q - p4) := seg_eq (fun j j1 j2 => gJ0.2.1 264 j (fun w => by have := w.1; revert this; decide) (fun w => by omega) (fun w => by omega) (fun w => by omega))
          rw [show q + N1 - p4 = (q - p4) + N1 by omega, seg_add, s1, show p4 + (q - p4) = q by omega, n6, k9 f111, List.take_succ, p3, List.append_assoc]
          refine congrArg (subs (envS b0 As b1 Bs) A0 ++ ·) ?_
          rw [List.map_append, List.flatten_append]
          refine congrArg (((Zs.take k).map (subs (envS b0 As b1 Bs))).flatten ++ ·) ?_
          exact (List.append_nil _).symm
        · show chf s 10 (s.2.1 225 y).toInt < chf s 10 z6.toInt
          rw [chf_eq (by rw [List.length_drop]; omega) hn, chf_eq (by rw [List.length_drop]; omega) k3', List.length_drop, List.length_drop]
          omega
end AM3
