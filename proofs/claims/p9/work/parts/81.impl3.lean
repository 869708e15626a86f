theorem cut_len {s : yS} {p l x : Nat} {As : List (List Nat)} (h : cutT (seg s p l) x As) : 1 ≤ l ∧ tyE s p = x := by
  obtain ⟨h1, -⟩ := h
  cases l with
  | zero => cases h1
  | succ l => exact ⟨by omega, (List.cons.inj h1).1⟩
theorem s_195 {e b n N T F H P E p l t m x : Nat} {As : List (List Nat)} {own : Nat → Nat × Nat} {a1 a2 a3 a4 : Int32} {s : yS} (hS : ST b n own N T F H s) (hR : RSH b H s) (hD : RSD b T s) (hF : RSF b T s) (hso : ∀ f, f < F → 0 ≤ (s.2.1 261 (60 * b + f)).toInt) (hB : BP s) (hT : TYN s) (hG : GC s) (h75 : (s.1 75).toInt = (b : Int)) (hP : (s.1 64).toInt = (P : Int)) (hP1 : 13000 ≤ P) (hP2 : P ≤ 199700) (hE : (s.1 70).toInt = (E : Int)) (hE2 : E ≤ 290)
    (h1 : a1.toInt = (p : Int)) (h2 : a2.toInt = (l : Int)) (h3 : a3.toInt = (t : Int)) (h4 : a4.toInt = (m : Int)) (hpl : p + l ≤ P) (htm : t + m ≤ P) (hSub : okSub (pg s b H) T H (seg s p l)) (hI : cutT (seg s t m) x As) (hAs6 : As.length ≤ 6) (hx : x / 8 < T ∨ 1000 ≤ x / 8) : Tot (e + 5) 195 [.ref 213, .int a1, .int a2, .int a3, .int a4] s (fun v s' => WF P E s s' ∧ ∃ r : Int32, v = some (.int r) ∧ 0 ≤ r.toInt ∧ r.toInt ≤ 2 ∧ (r.toInt = 1 → impl (pg s b H) (seg s p l) (seg s t m))) := by
  obtain ⟨hb, hn, hT24, hF60, hH, r33, r52, hA⟩ := id hS
  have n33 : nT s 233 b = T := by unfold nT; omega
  obtain ⟨y, Bs, hcy, hB6, hy⟩ := hSub
  obtain ⟨ml, mt⟩ := cut_len hI
  obtain ⟨ll, lt⟩ := cut_len hcy
  have et : a3.toInt.toNat = t := by omega
  have ep : a1.toInt.toNat = p := by omega
  have htt := hT t
  have htp := hT p
  have hxI : (s.2.1 264 t).toInt / 8 = (x / 8 : Nat) := by
    unfold tyE at mt
    omega
  have hyI : (s.2.1 264 p).toInt / 8 = (y / 8 : Nat) := by
    unfold tyE at lt
    omega
  refine t_195 ?_
  unfold w_195_0
  rw [et, ep]
  refine ⟨by omega, ?_⟩
  refine Tot.imp (Tot.mono (by omega) (s_185 (d := 0) htt.1)) ?_
  rintro v s1 ⟨es, x3, rfl, hx3⟩
  have es := es.symm
  subst es
  rw [hxI] at hx3
  have same : ∀ a5 : Int32, (1000 ≤ x / 8 ∨ ¬ gst (pg s b H) (x / 8) = 0) → w_195_19 (Tot (e + 4)) a1 a2 a3 a4 a5 s (fun v s' => WF P E s s' ∧ ∃ r : Int32, v = some (.int r) ∧ 0 ≤ r.toInt ∧ r.toInt ≤ 2 ∧ (r.toInt = 1 → impl (pg s b H) (seg s p l) (seg s t m))) := by
    intro a5 hst
    unfold w_195_19 w_195_29
    refine Tot.imp (Tot.mono (by omega) (s_187 (d := 0) h1 h2 h3 h4 (by omega) (by omega) hT)) ?_
    rintro v s2 ⟨es, r, rfl, hr⟩
    have es := es.symm
    subst es
    refine ⟨r, rfl, fun r0 => ⟨WF_rf hT hG, 0, rfl, by decide, by decide, fun q => absurd q (by decide)⟩, fun r0 => ⟨WF_rf hT hG, 1, rfl, by decide, by decide, fun _ => ?_⟩⟩
    have hr := hr.resolve_left r0
    exact ⟨x, As, hI, Or.inl ⟨hst, hr.2.2⟩⟩
  refine ⟨x3, rfl, fun q => same x3 (Or.inl (by omega)), fun q => ?_⟩
  have hxT : x / 8 < T := hx.resolve_right (fun w => by omega)
  obtain ⟨c, hc⟩ : ∃ c, c = x / 8 := ⟨_, rfl⟩
  rw [← hc] at hxT hx3
  have gst_e : gst (pg s b H) c = (s.2.1 235 (24 * b + c)).toInt.toNat := by
    show pgT s b 235 c = _; unfold pgT; rw [n33, if_pos hxT]; rfl
  obtain ⟨d1, d2, d3, -⟩ := hA.1 c hxT
  refine ⟨by omega, fun x4 hx4 => ⟨by omega, fun x5 hx5 => ?_⟩⟩
  have e5 : x5.toInt.toNat = 24 * b + c := by omega
  rw [e5]
  refine ⟨by omega, fun q35 => ⟨by omega, ?_⟩, fun q35 => same x3 (Or.inr (by rw [← hc, gst_e]; omega))⟩
  have st0 : gst (pg s b H) c = 0 := by rw [gst_e]; omega
  obtain ⟨hI1, hI2, hI3⟩ := id hI
  refine Tot.imp (Tot.mono (by omega) (s_185 (d := 0) htp.1)) ?_
  rintro v s6 ⟨es, x8, rfl, hx8⟩
  have es := es.symm
  subst es
  rw [hyI] at hx8
  refine ⟨x8, rfl, fun q8 => ?_, fun q8 => ⟨by omega, ?_⟩⟩
  · -- a named TYPE
    have hyT : y / 8 < T := by
      rcases hy with hy | ⟨hy, -⟩
      · exact hy
      · rcases hy with hy | hy | hy <;> omega
    obtain ⟨hy1, hy2, hy3⟩ := id hcy
    unfold w_195_52
    refine ⟨by omega, fun z1 hz1 => ⟨by omega, fun z2 hz2 => ?_⟩⟩
    have hBF : BF P E s s := ⟨fun _ _ => rfl, fun _ _ _ _ _ => rfl, rfl, hT, hG⟩
    refine im63 (e := e) (c := c) (P := P) (Q := P) hS hR hD hF hso hB h75 hP1 ⟨Nat.le_refl _, by omega⟩ hE hE2 hBF hP rfl (by omega) hxT (by omega) h3 hI1 hI2 hI3 hAs6 htm h1 hy1 hy2 hy3 hB6 hpl hyT (fun hall => ⟨x, As, hI, Or.inr ⟨by omega, by rw [← hc]; exact st0, y, Bs, hcy, Or.inl ⟨by omega, y, Bs, hcy, by rw [← hc]; exact hall⟩⟩⟩)
  · -- a param
    obtain ⟨hpc, hbd⟩ := hy.resolve_left (fun w => by omega)
    refine Tot.imp (Tot.mono (by omega) (s_185 (d := 0) htp.1)) ?_
    rintro v s9 ⟨es, x11, rfl, hx11⟩
    have es := es.symm
    subst es
    rw [hyI] at hx11
    refine ⟨x11, rfl, ?_⟩
    refine Tot.imp (Tot.mono (by omega) (s_194 (e := 0) (P := P) (E := E) (code := y / 8) hS hR hD hT hG h75 hP hP1 (by omega) hE hE2 hx11 hso hpc)) ?_
    rintro v u ⟨rfl, hBF, N1, Q, g1, g2, g3, g4, g5, g6, b1, g7⟩
    refine ⟨rfl, ?_⟩
    obtain ⟨z, Cs, hz, hC6, hzT⟩ := hbd b1
    rw [← g7] at hz
    obtain ⟨hz1, hz2, hz3⟩ := id hz
    have sgt : seg u t m = seg s t m := seg_eq (fun j _ h2 => hBF.2.1 264 j (fun w => by omega) (fun w => by omega) (fun w => by omega))
    have u75 : u.1 75 = s.1 75 := hBF.1 75 (by decide)
    unfold w_195_52
    rw [u75]
    refine ⟨by omega, fun z1 hz1' => ⟨by omega, fun z2 hz2' => ?_⟩⟩
    refine im63 (e := e) (c := c) (P := P) (Q := Q + N1) hS hR hD hF hso hB h75 hP1 ⟨by omega, by omega⟩ hE hE2 hBF (by omega) rfl (by omega) hxT (by omega) h3 (by rw [sgt]; exact hI1) hI2 hI3 hAs6 (by omega) g4 hz1 hz2 hz3 hC6 (Nat.le_refl _) hzT (fun hall => ⟨x, As, hI, Or.inr ⟨by omega, by rw [← hc]; exact st0, y, Bs, hcy, Or.inr ⟨by omega, b1, z, Cs, by rw [← g7]; exact hz, by rw [← hc]; exact hall⟩⟩⟩)
