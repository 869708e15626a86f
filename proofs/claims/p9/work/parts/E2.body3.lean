/-! ===== addBody ===== -/
section AB3
variable {own : Nat → Nat × Nat} {b n N T F H S0 : Nat} {G : PG} {S O R M P E : Nat} {s f : yS}
/-- one element is copied to the top -/
theorem cp1 {j src : Nat} {x : Int32} (hJ : JF bK R M P E s f) (hW : RW G R M f) (hM : M ≤ 100000) (hP : 100000 ≤ P) (hs : src < M) : JF bK R M P E s (sf (sa f 264 (P + j) (f.2.1 264 src)) 64 x) ∧ RW G R M (sf (sa f 264 (P + j) (f.2.1 264 src)) 64 x) ∧ seg (sf (sa f 264 (P + j) (f.2.1 264 src)) 64 x) P (j + 1) = seg f P j ++ seg s src 1 := by
  have c : ∀ q i, ¬ (q = 264 ∧ i = P + j) → (sa f 264 (P + j) (f.2.1 264 src)).2.1 q i = f.2.1 q i := fun q i w => by rw [sa_2, if_neg w]
  have J1 : JF bK R M P E s (sa f 264 (P + j) (f.2.1 264 src)) := by
    refine ⟨hJ.1, fun q i x1 x2 x3 x4 => ?_, hJ.2.2.1, fun i => ?_, fun i => ?_⟩
    · rw [c q i (fun w => x2 ⟨w.1, by omega⟩)]
      exact hJ.2.1 q i x1 x2 x3 x4
    · rw [sa_2]
      split
      · exact hJ.2.2.2.1 src
      · exact hJ.2.2.2.1 i
    · rw [c 265 i (fun w => by omega)]
      exact hJ.2.2.2.2 i
  refine ⟨JF_sf J1 (by decide), RW_eq (s := f) hW rfl rfl hW.2.2.2.2.2.1 (fun q i hq => c q i (fun w => ?_)), ?_⟩
  · rcases hq with ⟨hq, -⟩ | hq
    · rw [w.1] at hq
      revert hq
      decide
    · omega
  · have e1 : seg (sf (sa f 264 (P + j) (f.2.1 264 src)) 64 x) P (j + 1) = seg (sa f 264 (P + j) (f.2.1 264 src)) P (j + 1) := by
      refine seg_2 ?_
      rfl
    have e2 : seg (sa f 264 (P + j) (f.2.1 264 src)) P j = seg f P j := seg_eq (fun i _ _ => c 264 i (fun w => by omega))
    have e3 : seg (sa f 264 (P + j) (f.2.1 264 src)) (P + j) 1 = seg s src 1 := by
      show [tyE (sa f 264 (P + j) (f.2.1 264 src)) (P + j)] = [tyE s src]
      unfold tyE
      rw [sa_2, if_pos ⟨rfl, rfl⟩, hJ.2.1 264 src (fun w => by have := w.1; revert this; decide) (fun w => by omega) (fun w => by omega) (fun w => by omega)]
    rw [e1, seg_add, e2, e3]
theorem s_256 {d it ic p l pc lc : Nat} {a1 a2 a3 : Int32} (ih : AEH own b n N T F H S0 G S O 11 d) (hd : 5 ≤ d) (hI : IWm own b n N T F H S0 G S R M P s) (hPT : PT b n N F H G S O s) (hN : N ≤ 12006) (hO : O ≤ 120000) (h70 : (s.1 70).toInt = (E : Int)) (hE : E ≤ 279) (hP : P + 1200 ≤ 199000) (hic : ic < R) (hs1 : (s.2.1 279 ic).toInt = 1) (hit : it < R) (hs0 : (s.2.1 279 it).toInt = 0) (h1 : a1 = s.2.1 282 it) (h2 : a2 = s.2.1 283 it) (h3 : a3.toInt = (ic : Int)) (hst : ∀ p : Nat, a1.toInt = (p : Int) → tyE s p / 8 < T ∧ ¬ gst G (tyE s p / 8) = 0) : Tot (d + 1) 256 [.ref 213, .int a1, .int a2, .int a3] s (ABP own b n N T F H S0 G S R M P E s) := by
  obtain ⟨c1, c2, c3, c4, c5, c6⟩ := id hI
  obtain ⟨M92, M20⟩ := RW_M c2
  obtain ⟨o1, o2, o3, o4, o5, o6, o7⟩ := id c2
  obtain ⟨p, l, m, t1, t2, t3, t4, t5, t6, t7⟩ := o7 it hit
  obtain ⟨pc, lc, mc, u1, u2, u3, u4, u5, u6, u7⟩ := o7 ic hic
  obtain ⟨oV, hl60⟩ := t7.2.2.1 hs0
  obtain ⟨l420, I, Ds, eL, iI, oD, eM, rM⟩ := u7.2.2.2 hs1
  clear t7
  rw [seg_len] at hl60 l420
  rw [← h1] at t1
  rw [← h2] at t2
  obtain ⟨v, Vs, cV⟩ := cutT_ex oV.1
  have hst' := hst p t1
  rw [(cut_len cV).2] at hst'
  obtain ⟨d1, d2, d3, d4, d5, d6, d7, d8, d9, d10⟩ := id c1
  obtain ⟨rH, rD, rF⟩ := RSx_of (fun q i hv => SYo_SY (d2 q i hv))
  have gT' : gT G = T := by rw [← d8]; exact (pgA d1).1
  obtain ⟨sI, sD, eLn⟩ := seg_cut eL
  have vI : ∀ x ∈ I, vE G sc0 x := fun x hx => u7.2.1 x (by rw [eL]; exact List.mem_append_left _ hx)
  clear u7
  obtain ⟨z, Zs, cz⟩ := cutT_ex iI
  have hz6 : Zs.length ≤ 6 ∧ z / 8 < T := by
    rw [cz.2.2]
    rcases (okE_cut cz ⟨iI, vI⟩).1 with w | w
    · have := (d9.2.1 _ w.1).1
      omega
    · exact absurd w.2.2 id
  refine t_256 ?_
  unfold w_256_0
  rw [show a3.toInt.toNat = ic by omega]
  refine ⟨by omega, by omega, ?_⟩
  refine Tot.imp (Tot.mono (by omega) (s_186 (d := 0) (p := pc) (l := I.length) d5 u1 (by omega) (by rw [sI]; exact iI))) ?_
  rintro vv w ⟨es, x3, rfl, hx3⟩
  have es := es.symm
  subst es
  refine ⟨x3, rfl, by omega, by omega, fun x4 hx4 => ?_⟩
  refine Tot.imp (Tot.mono (by omega) (s_195 (e := 0) (P := P) (E := E) (p := p) (l := l) (t := pc) (m := I.length) (x := z) (As := Zs) d1 rH rD rF d3 d4 d5 d6 d7 c3 (by omega) (by omega) h70 (by omega) t1 t2 u1 (by omega) (by omega) (by omega) (by rw [d8]; exact ok_Sub d9 gT' scC_0 ⟨oV.1, oV.2.1⟩) (by rw [sI]; exact cz) hz6.1 (Or.inl hz6.2))) ?_
  rintro vv u ⟨hWF, x7, rfl, z0, z2, him⟩
  rw [d8, sI] at him
  refine ⟨x7, rfl, ?_⟩
  have uJ : JF bK R M P E s u := ⟨fun k hk => hWF.1 k (fun w => hk ((show ∀ k ∈ [71, 72, 73, 74], k ∈ bK by decide) k w)), fun q i _ x2 x3 x4 => hWF.2.1 q i (fun w => x2 ⟨w.1, Or.inr w.2⟩) x3 x4, hWF.2.2⟩
  have uW : ∀ v : Int32, v.toInt = 0 ∨ v.toInt = 1 → RW G R M (sf u 111 v) := fun v hv => RW_eq (s := s) c2 (hWF.1 112 (by decide)) (hWF.1 118 (by decide)) hv (fun q i hq => hWF.2.1 q i (fun w => by
    rcases hq with ⟨hq, -⟩ | hq
    · rw [w.1] at hq
      revert hq
      decide
    · omega) (fun w => by
    rcases hq with ⟨hq, -⟩ | hq
    · simp only [List.mem_cons, List.not_mem_nil, or_false] at hq
      omega
    · omega) (fun w => by
    rcases hq with ⟨hq, -⟩ | hq
    · simp only [List.mem_cons, List.not_mem_nil, or_false] at hq
      omega
    · omega))
  have uE : ∀ v : Int32, v.toInt = 0 ∨ v.toInt = 1 → ABP own b n N T F H S0 G S R M P E s none (sf u 111 v) := fun v hv => by
    have J2 : JF bK R M P E s (sf u 111 v) := JF_sf uJ (by decide)
    exact ⟨rfl, J2, hWF.1 70 (by decide), R, M, ⟨JF_CK c1 J2 (by decide) M20 c4, uW v hv, by show (u.1 64).toInt = _; rw [hWF.1 64 (by decide)]; exact c3, c4, c5, c6⟩, Nat.le_refl _, Nat.le_refl _⟩
  have zero : w_256_29 (Tot d) a1 a2 a3 x7 u (ABP own b n N T F H S0 G S R M P E s) := by
    unfold w_256_29 w_256_30 w_256_37
    refine ⟨Or.inl rfl, ?_⟩
    rintro s1 rfl
    exact ⟨fun _ => uE 0 (Or.inl rfl), fun _ => ⟨fun w => absurd rfl w, fun _ => uE 0 (Or.inl rfl)⟩⟩
  refine ⟨fun _ => zero, fun _ => ⟨fun _ => zero, fun _ => ?_⟩⟩
  clear zero
  unfold w_256_30 w_256_37
  refine ⟨Or.inr rfl, ?_⟩
  rintro s1 rfl
  refine ⟨fun _ => uE 1 (Or.inr rfl), fun h71 => ⟨fun _ => ⟨by omega, ?_⟩, fun _ => uE 1 (Or.inr rfl)⟩⟩
  have him := him h71
  obtain ⟨g, hg⟩ : ∃ g, g = sf u 111 1 := ⟨_, rfl⟩
  have gJ : JF bK R M P E s g := by rw [hg]; exact JF_sf uJ (by decide)
  have gW : RW G R M g := by rw [hg]; exact uW 1 (Or.inr rfl)
  have g64 : g.1 64 = s.1 64 := by rw [hg]; exact hWF.1 64 (by decide)
  have g70 : g.1 70 = s.1 70 := by rw [hg]; exact hWF.1 70 (by decide)
  rw [← hg]
  clear hg uE uW uJ hWF
  have row : ∀ (f : yS), JF bK R M P E s f → ∀ q, q ∈ [279, 280, 281, 282, 283] → f.2.1 q ic = s.2.1 q ic := fun f fJ q hq => fJ.2.1 q ic (fun x => by omega) (fun x => by rw [x.1] at hq; revert hq; decide) (fun x => by rcases x.1 with y | y <;> (rw [y] at hq; revert hq; decide)) (fun x => by rcases x.1 with y | y <;> (rw [y] at hq; revert hq; decide))
  have low : ∀ (f : yS), JF bK R M P E s f → ∀ p l : Nat, p + l ≤ M → seg f p l = seg s p l := fun f fJ p l hpl => seg_eq (fun j j1 j2 => fJ.2.1 264 j (fun x => by have := x.1; revert this; decide) (fun x => by omega) (fun x => by omega) (fun x => by omega))
  rw [show a3.toInt.toNat = ic by omega, row g gJ 282 (by decide), g64]
  refine Tot.imp (Tot.mono (by omega) (s_186 (d := 0) (p := pc) (l := I.length) gJ.2.2.2.1 u1 (by omega) (by rw [low g gJ _ _ (by omega), sI]; exact iI))) ?_
  rintro vv w ⟨es, x8, rfl, hx8⟩
  have es := es.symm
  subst es
  refine ⟨x8, rfl, ?_⟩
  refine ⟨fun z1 z2 z3 z4 z5 z6 z7 f => z1 = a1 ∧ z2 = a2 ∧ z3 = a3 ∧ z5 = s.1 64 ∧ z6 = x8 ∧ JF bK R M P E s f ∧ RW G R M f ∧ f.1 70 = s.1 70 ∧ ∃ k : Nat, z7.toInt = (k : Int) ∧ k ≤ l ∧ (f.1 64).toInt = (P : Int) + k ∧ seg f P k = seg s p k, fun _ _ _ _ _ _ z7 _ => (100 - z7.toInt).toNat, ⟨rfl, rfl, rfl, rfl, rfl, gJ, gW, g70, 0, rfl, by omega, by rw [g64]; omega, rfl⟩, ?_⟩
  rintro z1 z2 z3 z4 z5 z6 z7 f ⟨e1, e2, e3, e5, e6, fJ, fW, f70, k, k1, k2, k3, k4⟩
  have e1 := e1.symm
  have e2 := e2.symm
  have e3 := e3.symm
  have e5 := e5.symm
  have e6 := e6.symm
  subst e1 e2 e3 e5 e6
  unfold w_256_50
  refine ⟨fun hend => ?_, fun hmore => ⟨by omega, fun y1 hy1 => ⟨by omega, by omega, ?_⟩⟩⟩
  · have ek : k = l := by omega
    subst ek
    clear gJ gW g64 g70
    refine ⟨fun z1 z2 z3 z4 z5 z6 z7 t => z1 = a1 ∧ z2 = a2 ∧ z3 = a3 ∧ z5 = s.1 64 ∧ JF bK R M P E s t ∧ RW G R M t ∧ t.1 70 = s.1 70 ∧ ∃ j : Nat, z7.toInt = (pc : Int) + I.length + j ∧ j ≤ Ds.flatten.length ∧ (t.1 64).toInt = (P : Int) + k + j ∧ seg t P (k + j) = seg s p k ++ seg s (pc + I.length) j, fun _ _ _ _ _ _ z7 _ => (200000 - z7.toInt).toNat, ⟨rfl, rfl, rfl, rfl, fJ, fW, f70, 0, by omega, by omega, by omega, by rw [show k + 0 = k from rfl, k4]; exact (List.append_nil _).symm⟩, ?_⟩
    clear fJ fW f70 k3 k4 k1 hend f
    rintro z1 z2 z3 z4 z5 z6 z7 t ⟨e1, e2, e3, e5, tJ, tW, t70, j, j1, j2, j3, j4⟩
    have e1 := e1.symm
    have e2 := e2.symm
    have e3 := e3.symm
    have e5 := e5.symm
    subst e1 e2 e3 e5
    by_cases hj : j = Ds.flatten.length
    · refine ab74 (mc := 0) (I := I) (Ds := Ds) (Q := P + k + Ds.flatten.length) (p := p) (l := k) (v := v) (Vs := Vs) (wd := (s.2.1 280 ic).toInt) ih (by omega) hI hPT hN hO h70 hE hic h3 t1 t2 hl60 (by omega) cV oV ⟨by omega, hst'.2⟩ oD (by omega) rfl (by omega) rM him rfl hP tJ tW (by omega) t70 rfl ?_ (by omega) (by omega)
      rw [show P + k + Ds.flatten.length - P = k + j by omega, j4, hj, sD]
    · unfold w_256_74
      rw [show a3.toInt.toNat = ic by omega, row t tJ 282 (by decide), row t tJ 283 (by decide)]
      refine ⟨by omega, by omega, by omega, fun y1 hy1 => ⟨fun w => by omega, fun _ => ⟨by omega, by omega, ?_⟩⟩⟩
      rintro s27 rfl
      rw [show z7.toInt.toNat = pc + I.length + j by omega, show (t.1 64).toInt.toNat = P + (k + j) by omega]
      have e64 : (sa t 264 (P + (k + j)) (t.2.1 264 (pc + I.length + j))).1 64 = t.1 64 := rfl
      rw [e64]
      refine ⟨by omega, ?_⟩
      rintro x28 hx28 s29 rfl
      obtain ⟨q1, q2, q3⟩ := cp1 (j := k + j) (src := pc + I.length + j) (x := x28) tJ tW (by omega) c4 (by omega)
      refine ⟨by omega, fun x30 hx30 => ⟨⟨rfl, rfl, rfl, rfl, q1, q2, t70, j + 1, by omega, by omega, by show x28.toInt = _; omega, ?_⟩, by show (200000 - x30.toInt).toNat < (200000 - z7.toInt).toNat; omega⟩⟩
      rw [show k + (j + 1) = k + j + 1 by omega, q3, j4, List.append_assoc, seg_add (a := j) (b := 1)]
  · rintro s2 rfl
    rw [show y1.toInt.toNat = p + k by omega, show (f.1 64).toInt.toNat = P + k by omega]
    have e64 : (sa f 264 (P + k) (f.2.1 264 (p + k))).1 64 = f.1 64 := rfl
    rw [e64]
    refine ⟨by omega, ?_⟩
    rintro y3 hy3 s4 rfl
    obtain ⟨q1, q2, q3⟩ := cp1 (j := k) (src := p + k) (x := y3) fJ fW (by omega) c4 (by omega)
    refine ⟨by omega, fun y5 hy5 => ⟨⟨rfl, rfl, rfl, rfl, rfl, q1, q2, f70, k + 1, by omega, by omega, by show y3.toInt = _; omega, ?_⟩, by show (100 - y5.toInt).toNat < (100 - z7.toInt).toNat; omega⟩⟩
    rw [q3, k4, seg_add (a := k) (b := 1)]
end AB3
