/-! ===== the class: meets in any state that is sane ===== -/
section ZZZE
variable {d P : Nat} {s u : zS} {a1 a2 : Int32} {t : Int}
theorem zw_88 (hP : P = 3 ∨ P = 39) (h1 : sn a1) (h2 : sn a2) (ht : (s.1 75 3).toInt = t) (ht2 : 18 ≤ t ∧ t ≤ 900000000) (hE : snE s 80) (hF : snE s 78) : Zt (d + 27) (wd P 88) 88 [.ref 75, .int a1, .int a2] s (fun v s' => s'.1 = s.1 ∧ (∀ r, ¬ r = P + 18 → ¬ r = 78 → ¬ r = 80 → s'.2 r = s.2 r) ∧ (snE s' 78 ∧ snE s' 80) ∧ ∃ r : Int32, v = some (.int r)) := by
  have hne : ¬ 80 = P + 18 ∧ ¬ 78 = P + 18 ∧ ¬ P + 24 = P + 18 ∧ ¬ P + 24 = 78 ∧ ¬ P + 24 = 80 := by omega
  refine Zt_bd (fun hB => zc_88 (d := d + 18) hP ?_)
  obtain ⟨hb4, -, -⟩ := bd_rw hP hB
  unfold v_88_0
  refine ⟨fun _ => ?_, fun _ => ?_⟩
  · refine Zt.imp (Zt.mo (d := 9) (by omega) (zw_90 (d := 0) hP h1)) ?_
    rintro v1 s2 ⟨hs2, x3, rfl, hx3⟩
    subst hs2
    refine ⟨x3, rfl, ?_⟩
    refine Zt.imp (Zt.mo (d := 18) (by omega) (zw_86 (d := 0) (e := 78) hP (by decide) hx3 ⟨by decide, by decide⟩ hF)) ?_
    rintro v4 s5 ⟨rfl, f1, f2, f3⟩
    refine ⟨rfl, ?_⟩
    refine Zt.imp (Zt.mo (d := 18) (by omega) (zw_86 (d := 0) (e := 80) hP (by decide) h2 ⟨by decide, by decide⟩ (fun i => by rw [f2 80 (by decide)]; exact hE i))) ?_
    rintro v6 s7 ⟨rfl, g1, g2, g3⟩
    refine ⟨rfl, ?_⟩
    have F7 : snE s7 78 := fun i => by rw [g2 78 (by decide)]; exact f3 i
    have r7 : ∀ r, ¬ r = 78 → ¬ r = 80 → s7.2 r = s2.2 r := fun r q1 q2 => by rw [g2 r q2, f2 r q1]
    have c7 : s7.1 = s2.1 := g1.trans f1
    have b4 : ∀ (w : zS) (x : Int32), (∀ r, ¬ r = P + 18 → w.2 r = s7.2 r) → (zg w (P + 24) x).toInt ≤ 5000 := fun w x hw => by
      have e : zg w (P + 24) x = zg s2 (P + 24) x := by
        unfold zg
        rw [hw _ hne.2.2.1, r7 _ hne.2.2.2.1 hne.2.2.2.2]
      rw [e]
      exact (hb4 x).2
    refine ⟨fun _ _ c3 _ _ c6 u => c3 = zg s2 (P + 18) a2 ∧ 0 ≤ c6.toInt ∧ c6.toInt ≤ 5001 ∧ u.1 = s2.1 ∧ ∀ r, ¬ r = P + 18 → u.2 r = s7.2 r, fun _ _ _ _ _ c6 _ => (5001 - c6.toInt).toNat, ⟨rfl, by decide, by decide, c7, fun _ _ => rfl⟩, ?_⟩
    rintro c1 c2 c3 c4 c5 c6 u ⟨e3, i1, i2, i3, i4⟩
    have hc6 := b4 u (c3 * 6 + 4) i4
    have Eu : snE u 80 := fun i => by rw [i4 80 hne.1]; exact g3 i
    have Fu : snE u 78 := fun i => by rw [i4 78 hne.2.1]; exact F7 i
    have post : ∀ (w : zS) (r : Int32), w.1 = s2.1 → (∀ r, ¬ r = P + 18 → w.2 r = s7.2 r) → (fun (v : Option Value) (s' : zS) => s'.1 = s2.1 ∧ (∀ r, ¬ r = P + 18 → ¬ r = 78 → ¬ r = 80 → s'.2 r = s2.2 r) ∧ (snE s' 78 ∧ snE s' 80) ∧ ∃ r : Int32, v = some (.int r)) (some (.int r)) w := fun w r q1 q2 => ⟨q1, fun r k1 k2 k3 => by rw [q2 r k1, r7 r k2 k3], ⟨fun i => by rw [q2 78 hne.2.1]; exact F7 i, fun i => by rw [q2 80 hne.1]; exact g3 i⟩, r, rfl⟩
    unfold v_88_45
    refine ⟨fun _ => post u 0 i3 i4, fun y x2 _ => ?_⟩
    refine Zt.imp (Zt.mo (d := 18) (by omega) (zw_52 (d := 0) hP)) ?_
    rintro v4 s5' ⟨hs5, x6, rfl⟩
    subst hs5
    have nx : ∀ (x6' t0 : Int32) (w : zS), w.1 = s2.1 → (∀ r, ¬ r = P + 18 → w.2 r = s7.2 r) → v_88_77 (fun j => Zt (d + 18 + 8) (wd P j) j) P (fun a1' a2' a3' a4' a5' a6' s' => (a3' = zg s2 (P + 18) a2 ∧ 0 ≤ a6'.toInt ∧ a6'.toInt ≤ 5001 ∧ s'.1 = s2.1 ∧ ∀ r, ¬ r = P + 18 → s'.2 r = s7.2 r) ∧ (5001 - a6'.toInt).toNat < (5001 - c6.toInt).toNat) c1 c2 c3 c4 c5 c6 x6' t0 w (fun v s' => s'.1 = s2.1 ∧ (∀ r, ¬ r = P + 18 → ¬ r = 78 → ¬ r = 80 → s'.2 r = s2.2 r) ∧ (snE s' 78 ∧ snE s' 80) ∧ ∃ r : Int32, v = some (.int r)) := fun x6' t0 w q1 q2 => by
      unfold v_88_77
      refine ⟨fun _ x1 hx1 => ?_, fun _ => post w t0 q1 q2⟩
      have := hx1 (by omega)
      exact ⟨⟨e3, by omega, by omega, q1, q2⟩, by omega⟩
    refine ⟨x6, rfl, fun _ x7 _ => ?_, fun _ => nx _ _ _ i3 i4⟩
    refine Zt.imp (Zt.mo (d := 18) (by omega) (zw_89 (d := 0) (t := t) hP (by rw [i3]; exact ht) ht2 Eu Fu)) ?_
    rintro v8 s9 ⟨k1, k2, x10, rfl⟩
    exact ⟨x10, rfl, nx _ _ s9 (k1.trans i3) (fun r hr => by rw [k2 r hr, i4 r hr])⟩
  · refine Zt.imp (Zt.mo (d := 9) (by omega) (zw_84 (d := 0) hP)) ?_
    rintro v9 s10 ⟨hs10, x11, rfl⟩
    subst hs10
    unfold v_88_18
    exact ⟨x11, rfl, fun _ => ⟨rfl, fun _ _ _ _ => rfl, ⟨hF, hE⟩, 7, rfl⟩, fun _ => ⟨rfl, fun _ _ _ _ => rfl, ⟨hF, hE⟩, 0, rfl⟩⟩
end ZZZE
