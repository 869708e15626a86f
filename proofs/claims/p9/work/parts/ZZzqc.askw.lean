/-! ===== the class: implementing, isMade: what was kept stays ===== -/
section ZZZQC
variable {d P : Nat} {s u w : zS} {a1 a2 : Int32}
theorem RDw_e (hP : P = 3 ∨ P = 39) (hv : FVz (wrt [] 110 [.ref 86, .ref 1]) u w) (h1 : w.1 0 11 = u.1 0 11) (h2 : KFz u w) (g : RDw P s u) : RDw P s w := by
  have hv : FVz [(0, 403), (0, 439)] u w := hv
  have key : FVq [(0, 403), (0, 439)] P u w := by
    rcases hP with rfl | rfl
    · exact hv.1
    · exact hv.2.1
  obtain ⟨k1, -, -⟩ := key.2 (by rcases hP with rfl | rfl <;> decide) (by rcases hP with rfl | rfl <;> decide)
  have b18 : pWd P (P + 18) = true := by
    unfold pWd
    rw [Nat.beq_refl]
    rfl
  have b20 : pWd P (P + 20) = true := by
    unfold pWd
    rw [Nat.beq_refl (P + 20)]
    exact Bool.or_true _
  exact ⟨fun j hj => by rw [k1 _ b18]; exact g.1 j hj, fun j hj => by rw [k1 _ b20]; exact g.2.1 j hj, h1.trans g.2.2.1, KFz_tr g.2.2.2 h2⟩
theorem RDw_tr (h : RDw P s u) (g : RDw P u w) (hk : u.1 P 10 = s.1 P 10) : RDw P s w := ⟨fun j hj => (g.1 j (by rw [hk]; exact hj)).trans (h.1 j hj), fun j hj => (g.2.1 j (by rw [hk]; exact hj)).trans (h.2.1 j hj), g.2.2.1.trans h.2.2.1, KFz_tr h.2.2.2 g.2.2.2⟩
theorem zw_152w (hP : P = 3 ∨ P = 39) (h1 : 1 ≤ a1.toInt ∧ a1.toInt ≤ 2) (hk : ¬ (s.1 0 11).toInt = 0 → 18 ≤ (s.1 P 10).toInt ∧ (s.1 P 10).toInt ≤ 1300000000) (hN : SNz s) : Zx (d + 153) [(75, 0), (75, 1), (75, 2), (83, 1), (83, 2)] [(0, 9, P)] [(83, 2, 86), (83, 1, P), (75, 2, P + 22), (75, 1, P + 18), (75, 0, P)] 152 [.ref 0, .int a1] s (fun v s' => ∃ r : Int32, v = some (.int r) ∧ (r = 0 → sn (s'.1 85 5) ∧ sn (s'.1 85 6) ∧ (s'.1 75 3).toInt = 18) ∧ RDw P s s' ∧ s'.1 P 10 = s.1 P 10) := by
  refine zc_152 (d := d + 144) hP ?_
  unfold v_152_0
  refine Zt.imp (Zt.mo (d := 45) (by omega) ((zw_110T (d := 0) hN).fr.sn hN)) ?_
  rintro v1 s2 ⟨⟨⟨rfl, f2⟩, v2⟩, N2⟩
  have e2 : RDw P s s2 := RDw_e hP v2 (f2 0 11 (by decide) (by decide)) ⟨f2 0 12 (by decide) (by decide), fun k => f2 105 k (by decide) (by decide), fun k => f2 197 k (by decide) (by decide)⟩ RDw_rf
  refine ⟨rfl, fun s3 hs3 => ?_⟩
  have f3 : ∀ b q, ¬ b = 1 → ¬ b = 87 → ¬ b = 89 → s3.1 b q = s.1 b q := fun b q g1 g2 g3 => by rw [hs3, zf_1, if_neg (fun w => g1 w.1)]; exact f2 b q g2 g3
  have eP : s3.1 P 10 = s.1 P 10 := f3 P 10 (by omega) (by omega) (by omega)
  have e3 : RDw P s s3 := RDw_2 (by rw [hs3, zf_2]) (by rw [hs3, zf_1, if_neg (by decide)]) ⟨by rw [hs3, zf_1, if_neg (by decide)], fun k => by rw [hs3, zf_1, if_neg (fun z => absurd z.1 (by decide))], fun k => by rw [hs3, zf_1, if_neg (fun z => absurd z.1 (by decide))]⟩ e2
  refine ⟨fun _ => ⟨_, rfl, fun e => absurd e (by decide), e3, eP⟩, fun n => ?_⟩
  rw [f3 0 11 (by decide) (by decide) (by decide)] at n
  obtain ⟨k1, k2⟩ := hk n
  refine Zx.imp (Zx.mo (d := 144) (by omega) (zw_1w (d := 0) hP h1 (by rw [eP]; exact k1) (by rw [eP]; exact k2) (SNz_2 (by rw [hs3, zf_2]) N2))) ?_
  rintro v4 s5 ⟨r, rfl, h, q1, q2⟩
  have e5 : RDw P s s5 := RDw_tr e3 q1 eP
  exact ⟨r, rfl, fun _ => ⟨r, rfl, h, e5, q2.trans eP⟩, fun _ => ⟨r, rfl, h, e5, q2.trans eP⟩⟩
/-- implementing -/
theorem zw_141w (hP : P = 3 ∨ P = 39) (hk : ¬ (s.1 0 11).toInt = 0 → 18 ≤ (s.1 P 10).toInt ∧ (s.1 P 10).toInt ≤ 1300000000) (hN : SNz s) : Zu (d + 162) [(75, 0), (75, 1), (75, 2), (83, 1), (83, 2)] [(0, 9, P)] [] 141 [.ref 0] s (fun _ s' => RDw P s s' ∧ s'.1 P 10 = s.1 P 10) := by
  refine zc_141 (d := d + 153) hP ?_
  unfold v_141_0 v_141_28
  refine Zx.imp (Zx.mo (d := 153) (by omega) ((zw_152w (d := 0) (a1 := 2) hP (by decide) hk hN).sb hN)) ?_
  rintro v1 s2 ⟨⟨x3, rfl, h, e2, k2⟩, N2, -⟩
  refine ⟨x3, rfl, fun e => ?_, fun _ => ⟨e2, k2⟩⟩
  obtain ⟨q1, q2, q3⟩ := h e
  refine Zt.imp (Zt.mo (d := 27) (by omega) (zw_88w (d := 0) (t := 18) hP q1 q2 q3 (by decide) (SN_E N2 (by decide)) (SN_E N2 (by decide)))) ?_
  rintro v4 s5 ⟨f5, r5, -, w5, x6, rfl⟩
  have kk : s5.1 P 10 = s.1 P 10 := by rw [f5]; exact k2
  have e5 : RDw P s s5 := ⟨fun j hj => by rw [w5 j (by omega)]; exact e2.1 j hj, fun j hj => by rw [r5 _ (by omega) (by omega) (by omega)]; exact e2.2.1 j hj, by rw [f5]; exact e2.2.2.1, by rw [f5]; exact e2.2.2.2.1, fun k => by rw [f5]; exact e2.2.2.2.2.1 k, fun k => by rw [f5]; exact e2.2.2.2.2.2 k⟩
  exact ⟨x6, rfl, fun _ => ⟨fun _ => ⟨e5, kk⟩, fun _ => ⟨e5, kk⟩⟩, fun _ => ⟨e5, kk⟩⟩
/-- isMade -/
theorem zw_147w (hP : P = 3 ∨ P = 39) (hk : ¬ (s.1 0 11).toInt = 0 → 18 ≤ (s.1 P 10).toInt ∧ (s.1 P 10).toInt ≤ 1300000000) (hN : SNz s) : Zu (d + 162) [(75, 0), (75, 1), (75, 2), (83, 1), (83, 2)] [(0, 9, P)] [] 147 [.ref 0] s (fun _ s' => RDw P s s' ∧ s'.1 P 10 = s.1 P 10) := by
  refine zc_147 (d := d + 153) hP ?_
  unfold v_147_0 v_147_24
  refine Zx.imp (Zx.mo (d := 153) (by omega) ((zw_152w (d := 0) (a1 := 1) hP (by decide) hk hN).sb hN)) ?_
  rintro v1 s2 ⟨⟨x3, rfl, h, e2, k2⟩, N2, -⟩
  refine ⟨x3, rfl, fun e => ⟨fun _ => ?_, fun _ => ⟨e2, k2⟩⟩, fun _ => ⟨e2, k2⟩⟩
  refine Zt.imp (Zt.mo (d := 18) (by omega) (zw_98 (d := 0) hP N2)) ?_
  rintro v4 s5 ⟨hs5, x6, rfl, -⟩
  rw [hs5]
  exact ⟨x6, rfl, fun _ => ⟨e2, k2⟩, fun _ => ⟨e2, k2⟩⟩
end ZZZQC
