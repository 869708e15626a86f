/-! ===== evalMethod ===== -/
def rK7 : List Nat := 70 :: rK
section EM
variable {own : Nat → Nat × Nat} {b n W N T F H S0 : Nat} {G : PG} {S O E pl plx c Vn vt L : Nat} {s : yS} {τ : Nat → Option (List Nat)} {A : List Nat}
theorem me139 {d Vn' vt' L' : Nat} {a1 a2 a3 a4 a5 a6 a7 : Int32} {f : yS} (h70 : (s.1 70).toInt = (E : Int)) (hX : RX rK7 E pl Vn vt s f) (hR : RTm own b n W N T F H S0 G S O (E + 1) plx c Vn' vt' L' f) (h4 : a4.toInt = (pl : Int)) (h5 : 0 ≤ a5.toInt) (hE : E ≤ 41) (hV : Vn ≤ Vn') (hv : vt ≤ vt') (hL : L ≤ L') (hw : a5.toInt = 0 → ∃ w : Nat, (f.1 102).toInt = (w : Int) ∧ w < Vn' ∧ impl G (VT f w) (subs τ A)) : w_244_139 (Tot d) a1 a2 a3 a4 a5 a6 a7 f (EvQ own b n W N T F H S0 G S O E pl c Vn vt L τ A s) := by
  have hv := RT_vt hR
  obtain ⟨r1, r2, r3, r4, r5, r6, r7, r8, r9, r10, r11, r12, r13, r14, r15, r16, r17, r18, r19⟩ := id hR
  unfold w_244_139
  refine ⟨by omega, ?_⟩
  rintro x1 hx1 s2 rfl s3 rfl
  have ex : x1 = s.1 70 := Int32.toInt_inj.mp (by omega)
  obtain ⟨g, hg⟩ : ∃ g, g = sf (sf f 70 x1) 105 a4 := ⟨_, rfl⟩
  rw [← hg]
  have g2 : g.2 = f.2 := by rw [hg]; rfl
  have gk : ∀ k, ¬ k = 70 → ¬ k = 105 → g.1 k = f.1 k := fun k k1 k2 => by rw [hg, sf_1, if_neg k2, sf_1, if_neg k1]
  have g70 : g.1 70 = s.1 70 := by rw [hg, ← ex]; rfl
  have g105 : g.1 105 = a4 := by rw [hg]; rfl
  clear hg
  have gX : RX [70, 105] (E + 1) plx Vn' vt' f g := ⟨fun k hk => gk k (fun w => hk (by rw [w]; decide)) (fun w => hk (by rw [w]; decide)), fun q i _ _ _ _ _ _ => by rw [g2], by rw [g2], fun i => by rw [g2]; exact hX.2.2.2.1 i, fun i => by rw [g2]; exact hX.2.2.2.2 i⟩
  have sX : RX rK E pl Vn vt s g := by
    refine ⟨fun k hk => ?_, fun q i w1 w2 w3 w4 w5 w6 => by rw [g2]; exact hX.2.1 q i w1 w2 w3 w4 w5 w6, by rw [g2]; exact hX.2.2.1, gX.2.2.2⟩
    by_cases e : k = 70
    · rw [e]; exact g70
    · rw [gk k e (fun w => hk (by rw [w]; decide))]
      refine hX.1 k (fun w => ?_)
      rcases List.mem_cons.mp w with w | w
      · exact e w
      · exact hk w
  refine ⟨a5, rfl, h5, sX, Vn', vt', L', RT_rx hR gX (by decide) (by rw [g70]; exact h70) (by rw [g105]; exact h4) (by rw [gk 106 (by decide) (by decide)]; exact r6) (by rw [gk 98 (by decide) (by decide)]; exact r7) (by rw [gk 97 (by decide) (by decide)]; exact r8) (by rw [gk 95 (by decide) (by decide)]; exact r9) (by rw [gk 96 (by decide) (by decide)]; exact r11) (by rw [gk 94 (by decide) (by decide)]; exact r12) (by rw [gk 93 (by decide) (by decide)]; exact r13) (Nat.le_refl _) (Nat.le_refl _) r16 r19, hV, by omega, hL, fun h0 => ?_⟩
  obtain ⟨w, w1, w2, w3⟩ := hw h0
  refine ⟨w, by rw [gk 102 (by decide) (by decide)]; exact w1, w2, ?_⟩
  rw [RX_VT gX w2 (r17 w w2) (by omega)]
  exact w3
/-- what a call wants of the pile and of its env -/
def CLH (G : PG) (F E pl plx Vn vt e w0 v kf g t : Nat) (Vs Ds : List (List Nat)) (Ar : List Nat) (wd : Int) (s : yS) : Prop := (s.2.1 222 e).toInt = (t : Int) ∧ t < 12006 ∧ (s.2.1 217 t).toInt = wd ∧ (s.2.1 278 pl).toInt = (w0 : Int) ∧ w0 < Vn ∧ cutT (VT s w0) v Vs ∧ kf < F ∧ g = gfh G kf ∧ isHd G (v / 8) wd g (4000 + 6 * kf) ∧ v / 8 < gT G ∧ (s.2.1 266 (2 * E + 1)).toInt = (Ds.length : Int) ∧ Ds.length ≤ 6 ∧ (∀ (a : Nat) (A : List Nat), Ds[a]? = some A → isF 1 A ∧ ∃ q : Nat, (s.2.1 267 (12 * E + 6 + a)).toInt = (q : Int) ∧ (s.2.1 268 (12 * E + 6 + a)).toInt = (A.length : Int) ∧ seg s q A.length = A ∧ q + A.length ≤ vt) ∧ wEnv G (scHg G g) (envS (4000 + 6 * kf) Vs (2000 + 6 * g) Ds) ∧ subs (envS (4000 + 6 * kf) Vs (2000 + 6 * g) Ds) (thisT G kf) = VT s w0 ∧ subs (envS (4000 + 6 * kf) Vs (2000 + 6 * g) Ds) (ght G g) = Ar ∧ plx = pl + 1 + gvn G g ∧ ∀ j, j < gvn G g → ∃ w : Nat, (s.2.1 278 (pl + 1 + j)).toInt = (w : Int) ∧ w < Vn ∧ impl G (VT s w) (subs (envS (4000 + 6 * kf) Vs (2000 + 6 * g) Ds) (gvt G g j))
theorem CLH_2 {e w0 v kf g t : Nat} {Vs Ds : List (List Nat)} {Ar : List Nat} {wd : Int} {s' : yS} (h2 : s'.2 = s.2) (h : CLH G F E pl plx Vn vt e w0 v kf g t Vs Ds Ar wd s) : CLH G F E pl plx Vn vt e w0 v kf g t Vs Ds Ar wd s' := by
  have hs : ∀ p l, seg s' p l = seg s p l := fun p l => seg_2 h2
  have hV : ∀ w, VT s' w = VT s w := fun w => by unfold VT; rw [h2]; exact hs _ _
  unfold CLH at h ⊢
  rw [h2]
  simp only [hs, hV]
  exact h
theorem me115 {d e w0 v kf g t Vn' vt' L' : Nat} {Vs Ds : List (List Nat)} {wd : Int} {a1 a2 a3 a4 a5 a6 a7 : Int32} {u : yS} (ih : REH own b n W N T F H S0 G S O (c + 1) 11 d) (hd : 4 ≤ d) (h70 : (s.1 70).toInt = (E : Int)) (hX : RX rK7 E pl Vn vt s u) (hR : RTm own b n W N T F H S0 G S O (E + 1) plx c Vn' vt' L' u) (hE : E ≤ c + 1) (hplx : pl < plx ∧ plx ≤ pl + 7) (hpl : c < 40 → plx + 77 + 80 * (39 - c) ≤ 4000) (hN : N ≤ 12006) (he : e < 12006) (h1 : a1.toInt = (e : Int)) (h4 : a4.toInt = (pl : Int)) (h5 : 0 ≤ a5.toInt) (h6 : a6.toInt = (E : Int)) (hV : Vn ≤ Vn') (hv : vt ≤ vt') (hL : L ≤ L') (hC : a5.toInt = 0 → CLH G F E pl plx Vn' vt' e w0 v kf g t Vs Ds (subs τ A) wd u) : w_244_115 (Tot (d + 1)) a1 a2 a3 a4 a5 a6 a7 u (EvQ own b n W N T F H S0 G S O E pl c Vn vt L τ A s) := by
  have hvv := RT_vt hR
  have hc40 := hR.2.2.2.2.2.2.2.2.2.2.2.2.2.2.2.2.2.2
  unfold w_244_115
  refine ⟨fun hne => ?_, fun h0 => ?_⟩
  · unfold w_244_122
    refine ⟨fun _ => ?_, fun w => absurd w hne⟩
    unfold w_244_131
    exact ⟨fun _ => me139 h70 hX hR h4 h5 (by omega) hV hv hL (fun w => absurd w hne), fun w => absurd w hne⟩
  · refine Tot.imp (Tot.mono (by omega) (r_237 (d := 0) hR)) ?_
    rintro v' w ⟨x3, rfl, wX, w2, L2, wR, hL2, hr, -⟩
    have hC' := CLH_2 w2 (hC h0)
    clear hC
    have sX : RX rK7 E pl Vn vt s w := RX_tr hX (RX_mo wX (ks := rK7) (by decide) (Nat.le_refl _) (Nat.le_refl _) (Nat.le_refl _) (Nat.le_refl _)) (fun _ w => w) (by omega) (by omega) hV hv
    have hx0 : 0 ≤ x3.toInt := by rcases hr with hr | hr <;> omega
    refine ⟨x3, rfl, ?_⟩
    unfold w_244_122
    have w106 := wR.2.2.2.2.2.1
    refine ⟨fun hne => ?_, fun h3 => ⟨fun hne => ?_, fun h40 => ?_⟩⟩
    · unfold w_244_131
      exact ⟨fun _ => me139 h70 sX wR h4 hx0 (by omega) hV hv (by omega) (fun w => absurd w hne), fun w => absurd w hne⟩
    · unfold w_244_131
      refine ⟨fun w => absurd h3 w, fun _ => ?_⟩
      obtain ⟨k1, k2, k3, k4, k5, k6, k7, k8, k9, k10, k11, k12, k13, k14, k15, k16, k17, k18⟩ := hC'
      have hL3 : L2 = L' + 1 := by rcases hr with hr | hr <;> omega
      have h93 : (w.1 93).toInt + 1 ≤ (L2 : Int) := by
        rw [wX.1 93 (by decide)]
        have := hR.2.2.2.2.2.2.2.2.2.2.2.2.1
        omega
      have hc39 : c < 40 := by
        have : ¬ c = 40 := fun w => hne (by omega)
        omega
      refine Tot.imp (s_245 ih hd wR hc39 h93 hE hplx (hpl hc39) hN he h1 h4 h6 k1 k2 k3 k4 k5 k6 k7 k8 k9 k10 k11 k12 k13 k14 k15 k16 k17 k18) ?_
      rintro v' f ⟨r, rfl, g0, fX, Vn2, vt2, L3, fR, g1, g2, g3, g4⟩
      refine ⟨r, rfl, ?_⟩
      exact me139 h70 (RX_tr sX (RX_mo fX (ks := rK7) (fun k hk => List.mem_cons_of_mem _ hk) (Nat.le_refl _) (Nat.le_refl _) (Nat.le_refl _) (Nat.le_refl _)) (fun _ w => w) (Nat.le_refl _) (by omega) hV hv) fR h4 g0 (by omega) (by omega) (by omega) (by omega) g4
    · unfold w_244_131
      exact ⟨fun _ => me139 h70 sX wR h4 (by decide) (by omega) hV hv (by omega) (fun w => absurd w (by decide)), fun w => absurd w (by decide)⟩
end EM
