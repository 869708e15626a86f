/-! ===== takes ===== -/
def TCo (own : Nat → Nat × Nat) (b N m lo hi S O P E : Nat) (s : yS) : Prop := 4002 * b ≤ lo ∧ hi ≤ N ∧ N ≤ 12006 ∧ (∀ x, lo ≤ x → x < hi → (own x).1 ∉ slR) ∧ S + (hi - lo) ≤ 10 + 4100 * (b + 1) ∧ O + 60 * cM s lo hi ≤ 60000 * (b + 1) ∧ P + 3000 * m ≤ 199000 ∧ E + m + 2 ≤ 289
def TEH (own : Nat → Nat × Nat) (b n W N T F H S0 : Nat) (G : PG) (fo : Option Nat) (m d : Nat) : Prop := ∀ (s : yS) (a1 : Int32) (lo hi e S O P E : Nat), TW own b n W N T F H S0 G fo S O P E s → TCo own b N m lo hi S O P E s → isE b n s m lo hi e → a1.toInt = (e : Int) → Tot d 217 [.ref 213, .int a1] s (fun v s' => v = none ∧ TEQ b lo hi S O P E 3000 (fun s' S' O' A => wE G H b n (scX G fo) (tVX G fo) S' O' s' m lo hi e A) s s')
theorem p30 {P P1 m : Nat} (h : P + 3000 * (m + 1) ≤ 199000) (h' : P1 ≤ P + 3000) : P1 ≤ 199600 := by omega
section TK
variable {own : Nat → Nat × Nat} {b n W N T F H S0 : Nat} {G : PG} {fo : Option Nat} {S O P E : Nat} {s : yS}
theorem isE_tf {ks : List Nat} {m lo hi lo' hi' e : Nat} {s s' : yS} (hF : TFr ks b lo' hi' S P E O s s') (h : isE b n s m lo hi e) : isE b n s' m lo hi e := by
  have nl := TF_NL (n := n) (N := hi) hF
  refine isE_lo nl.1 m lo hi e (fun y y1 y2 => ?_) h
  by_cases w : 4002 * b ≤ y
  · have := nl.2.1 y w y2
    exact ⟨this.1, fun _ => this.2⟩
  · refine ⟨⟨by rw [TF_row hF (by decide)], by rw [TF_row hF (by decide)], by rw [TF_row hF (by decide)], by rw [TF_row hF (by decide)], by rw [TF_row hF (by decide)], by rw [TF_row hF (by decide)], fun hn => ?_, fun hn => ?_⟩, fun _ => ⟨by rw [TF_row hF (by decide)], by rw [TF_row hF (by decide)]⟩⟩
    · exact hF.2.1 226 y (fun w => by omega) (fun w => by omega) (fun w => by omega) (fun w => by omega) (fun w => by omega)
    · exact hF.2.1 230 y (fun w => by omega) (fun w => by omega) (fun w => by omega) (fun w => by omega) (fun w => by omega)
/-- what takes leaves -/
def TKQ (b lo hi S O P E : Nat) (R : yS → Nat → Nat → Prop) (s s' : yS) : Prop := TFr tK b lo hi S P E O s s' ∧ f8 s s' ∧ ∃ S' O' : Nat, (s'.1 64).toInt = (P : Int) ∧ (s'.1 65).toInt = (S' : Int) ∧ (s'.1 85).toInt = (O' : Int) ∧ S ≤ S' ∧ S' ≤ S + (hi - lo) ∧ O ≤ O' ∧ O' ≤ O + 60 * cM s lo hi ∧ ((s'.1 8).toInt = 0 → R s' S' O')
theorem s_222 {d m lo hi e q i ev b0 b1 : Nat} {As Bs : List (List Nat)} {sc2 : Nat → Prop} {a1 a2 a3 : Int32} (ih : TEH own b n W N T F H S0 G fo m d) (hd : 6 ≤ d) (hW : TW own b n W N T F H S0 G fo S O P E s) (hC : TCo own b N m lo hi S O P E s) (hE : isE b n s m lo hi e) (h1 : a1.toInt = (e : Int)) (hv : vS b T H s q i) (h2 : a2 = s.2.1 q i) (hok : okE G sc2 (tyS s q i)) (h3 : a3.toInt = (ev : Int)) (hev : ev < E) (hV : EV s ev P b0 As b1 Bs) (hl : EVl S s ev As Bs) (hcov : ∀ c, sc2 c → (∃ A, envS b0 As b1 Bs c = some A ∧ okE G (scX G fo) A) ∨ (envS b0 As b1 Bs c = none ∧ scX G fo c)) : Tot (d + 1) 222 [.ref 213, .int a1, .int a2, .int a3] s (fun v s' => v = none ∧ TKQ b lo hi S O P E (fun s' S' O' => ∃ A, wE G H b n (scX G fo) (tVX G fo) S' O' s' m lo hi e A ∧ impl G A (subs (envS b0 As b1 Bs) (tyS s q i))) s s') := by
  obtain ⟨hb, hn, hT24, hF60, hH, gT', gF', hS8⟩ := TW_num hW
  obtain ⟨c1, c2, c3, c4, c5, c6, c7, c8, c9, c10, c11, c12, c13⟩ := id hW
  obtain ⟨t1, t2, t3, t4, t5, t6, t7, t8⟩ := id hC
  refine t_222 ?_
  unfold w_222_0
  refine Tot.imp (ih s a1 lo hi e S O P E hW hC hE h1) ?_
  rintro v s1 ⟨rfl, F1, f1, S1, O1, P1, k1, k2, k3, k4, k5, k6, k7, k8, k9, k10⟩
  refine ⟨rfl, fun hf => ?_, fun hf => ?_⟩
  · unfold w_222_20
    rintro s2 rfl
    refine ⟨rfl, TF_sf F1 (by decide), f1, S1, O1, c5, k2, k3, k4, k5, k6, k7, fun w => absurd w hf⟩
  · obtain ⟨A, p, a1', a2', a3', a4', a5', a6'⟩ := k10 hf
    have W1 : TW own b n W N T F H S0 G fo S1 O1 P1 E s1 := TW_fr hW F1 (by decide) t4 f1.1 k1 (by rw [F1.1 70 (by decide)]; exact c6) k2 k3 k4 (by omega) k6 (by omega)
    obtain ⟨d1, d2, d3, d4, d5, d6, d7, d8, d9, d10⟩ := id W1.1
    have hE1 := isE_tf F1 hE
    cases m with
    | zero => exact absurd hE id
    | succ m =>
      refine Tot.imp (Tot.mono (by omega) (s_178 (d := 0) (m := m) (by omega) hn h1 hE1 (by omega))) ?_
      rintro v s3 ⟨es, x5, rfl, h5⟩
      have es := es.symm
      subst es
      refine ⟨x5, rfl, ?_⟩
      have hv1 : vS b T H s1 q i := (vS_eq (fun q hq => TF_row F1 (by revert q; decide))).mpr hv
      obtain ⟨yy, pp, ll, o1, o2, o3, o4, o5, o6, o7⟩ := d2 q i hv1
      have hqn : q ∉ [226, 230, 231, 232, 264, 265, 266, 267, 268, 270, 271, 272] := by
        have := vS_q hv
        clear hv hv1 ih o1 o2 o3 o4 o5 o6 o7 hok h2
        revert q
        decide
      have eq1 : s1.2.1 q i = s.2.1 q i := by rw [TF_row F1 hqn]
      obtain ⟨y0, p0, l0, i1, i2, i3, i4, i5, i6, i7⟩ := c1.2.1 q i hv
      have ny : ¬ (lo ≤ y0 ∧ y0 < hi) := fun w => t4 y0 w.1 w.2 (by rw [i2]; exact vS_q hv)
      have ey : yy = y0 := by rw [eq1] at o1; omega
      subst ey
      have ep : pp = p0 ∧ ll = l0 := by
        have e1 := F1.2.1 231 yy (fun w => ny w.2) (fun w => by omega) (fun w => by omega) (fun w => by omega) (fun w => by omega)
        have e2 := F1.2.1 232 yy (fun w => ny w.2) (fun w => by omega) (fun w => by omega) (fun w => by omega) (fun w => by omega)
        have o31 := o5.2.1
        have o32 := o5.2.2.1
        rw [e1] at o31
        rw [e2] at o32
        have := i5.2.1
        have := i5.2.2.1
        omega
      have es2 : seg s1 pp ll = tyS s q i := by
        rw [SY_ty i1 i5, ep.1, ep.2]
        exact TF_seg F1 (Or.inl (by omega)) (by omega) hb
      obtain ⟨V1, L1⟩ := EV_tf hb hV hl F1 hev (Nat.le_refl _) k4
      have okA : okE G (scX G fo) A := by
        obtain ⟨pp', -, hh⟩ := a6'
        exact (wEp_ok hh).1
      have hP1 := p30 t7 k9
      have hP0 : 13000 ≤ P1 := Nat.le_trans (by decide) W1.2.2.2.2.2.2.2.2.2.2.2.2
      refine Tot.imp (Tot.mono (show 0 + 6 ≤ d by omega) (s_212 (e := 0) (own := own) (S0 := S0) (p := p) (l := A.length) (y := yy) (p2 := pp) (l2 := ll) (ev := ev) (b0 := b0) (b1 := b1) (As := As) (Bs := Bs) (sc := scX G fo) (sc2 := sc2) (P := P1) (E := E) W1.1 W1.2.1 W1.2.2.1 k1 hP0 hP1 W1.2.2.2.2.2.1 (by omega) a1' a2' a5' (scX_C d9 gF' W1.2.2.2.1) (by rw [a3']; exact okA) (by rw [h2, ← eq1]; exact o1) o5 (by rw [es2]; exact hok) h3 (by omega) (EV_top V1 k8) hcov ⟨h5.1, by have := h5.2.1; omega⟩)) ?_
      rintro v s6 ⟨rfl, x6, f6, i6'⟩
      rw [a3', es2] at i6'
      unfold w_222_20
      refine ⟨rfl, ?_⟩
      rintro s7 rfl
      have F6 : TFr tK b lo hi S P E O s s6 := TF_tr F1 (TF_xf (b := b) (lo := lo) (hi := hi) (S := S1) (O := O1) x6) (by decide) (Nat.le_refl _) (Nat.le_refl _) k4 k8 (Nat.le_refl _) k6
      refine ⟨rfl, TF_sf F6 (by decide), ⟨f6.1, fun w => f1.2 (f6.2 w)⟩, S1, O1, c5, by show (s6.1 65).toInt = _; rw [x6.1 65 (by decide)]; exact k2, by show (s6.1 85).toInt = _; rw [x6.1 85 (by decide)]; exact k3, k4, k5, k6, k7, fun w => ⟨A, ?_, (i6' w).1⟩⟩
      refine wE_eq (Nat.le_refl _) (Nat.le_refl _) (s := s1) ?_ a6'
      have ca : CA b n lo hi S1 O1 s1 s6 := by
        refine ⟨fun q hq x _ _ => ?_, fun t _ _ => by rw [XF_row x6 (by decide)], fun j j1 j2 => ?_, fun j _ _ => by rw [XF_row x6 (by decide)]⟩
        · rw [XF_row x6 (by revert q; decide)]
        · exact x6.2.1 264 j (fun w => by omega) (fun w => by omega) (fun w => by omega)
      exact ca
end TK
