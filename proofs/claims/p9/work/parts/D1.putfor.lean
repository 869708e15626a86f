/-! ===== instances: putFor, addTypes ===== -/
def JF (ks : List Nat) (R M P E : Nat) (s s' : yS) : Prop := (∀ k, k ∉ ks → s'.1 k = s.1 k) ∧ (∀ q i, ¬ (q ∈ [279, 280, 281, 282, 283] ∧ R ≤ i) → ¬ (q = 264 ∧ (M ≤ i ∧ i < 100000 ∨ P ≤ i)) → ¬ ((q = 265 ∨ q = 266) ∧ 2 * E ≤ i) → ¬ ((q = 267 ∨ q = 268) ∧ 12 * E ≤ i) → s'.2.1 q i = s.2.1 q i) ∧ s'.2.2 = s.2.2 ∧ TYN s' ∧ GC s'
section JFS
variable {G : PG} {ks ks' : List Nat} {R M P E R' M' P' E' : Nat} {s s' s'' : yS}
theorem JF_rf (hT : TYN s) (hG : GC s) : JF ks R M P E s s := ⟨fun _ _ => rfl, fun _ _ _ _ _ _ => rfl, rfl, hT, hG⟩
theorem JF_tr (h : JF ks R M P E s s') (h' : JF ks' R' M' P' E' s' s'') (hk : ∀ k, k ∈ ks' → k ∈ ks) (hR : R ≤ R') (hM : M ≤ M') (hP : P ≤ P') (hE : E ≤ E') : JF ks R M P E s s'' := ⟨fun k hk' => (h'.1 k (fun w => hk' (hk k w))).trans (h.1 k hk'), fun q i w1 w2 w3 w4 => (h'.2.1 q i (fun w => w1 ⟨w.1, by omega⟩) (fun w => w2 ⟨w.1, by omega⟩) (fun w => w3 ⟨w.1, by omega⟩) (fun w => w4 ⟨w.1, by omega⟩)).trans (h.2.1 q i w1 w2 w3 w4), h'.2.2.1.trans h.2.2.1, h'.2.2.2⟩
theorem JF_mo (h : JF ks' R' M' P' E' s s') (hk : ∀ k, k ∈ ks' → k ∈ ks) (hR : R ≤ R') (hM : M ≤ M') (hP : P ≤ P') (hE : E ≤ E') : JF ks R M P E s s' := ⟨fun k hk' => h.1 k (fun w => hk' (hk k w)), fun q i w1 w2 w3 w4 => h.2.1 q i (fun w => w1 ⟨w.1, by omega⟩) (fun w => w2 ⟨w.1, by omega⟩) (fun w => w3 ⟨w.1, by omega⟩) (fun w => w4 ⟨w.1, by omega⟩), h.2.2⟩
theorem JF_sf {k : Nat} {v : Int32} (h : JF ks R M P E s s') (hk : k ∈ ks) : JF ks R M P E s (sf s' k v) := ⟨fun j hj => by
  rw [sf_1, if_neg (fun w => hj (by rw [w]; exact hk))]
  exact h.1 j hj, h.2⟩
theorem JF_row {q : Nat} (h : JF ks R M P E s s') (hq : q ∉ [264, 265, 266, 267, 268, 279, 280, 281, 282, 283]) : s'.2.1 q = s.2.1 q := by
  simp only [List.mem_cons, List.not_mem_nil, or_false, not_or] at hq
  funext i
  refine h.2.1 q i (fun w => ?_) (fun w => by omega) (fun w => by omega) (fun w => by omega)
  have := w.1
  simp only [List.mem_cons, List.not_mem_nil, or_false] at this
  omega
theorem JF_mfr (h : MFr R M s s') (hG : GC s) : JF [111, 112, 118] R M P E s s' := ⟨h.1, fun q i w1 w2 _ _ => h.2.1 q i w1 (fun w => w2 ⟨w.1, Or.inl w.2⟩), h.2.2.1, h.2.2.2, fun i => by rw [h.2.1 265 i (fun w => by have := w.1; revert this; simp) (fun w => by omega)]; exact hG i⟩
theorem RW_eq (h : RW G R M s) (h1 : s'.1 112 = s.1 112) (h2 : s'.1 118 = s.1 118) (h3 : (s'.1 111).toInt = 0 ∨ (s'.1 111).toInt = 1) (hc : ∀ q i, q ∈ [279, 280, 281, 282, 283] ∧ i < R ∨ q = 264 ∧ 20000 ≤ i ∧ i < M → s'.2.1 q i = s.2.1 q i) : RW G R M s' := by
  obtain ⟨w1, w2, w3, w4, w5, w6, w7⟩ := h
  exact ⟨by rw [h1]; exact w1, w2, by rw [h2]; exact w3, w4, w5, h3, fun i hi => RWr_eq (w7 i hi) (hc 279 i (Or.inl ⟨by decide, hi⟩)) (hc 280 i (Or.inl ⟨by decide, hi⟩)) (hc 281 i (Or.inl ⟨by decide, hi⟩)) (hc 282 i (Or.inl ⟨by decide, hi⟩)) (hc 283 i (Or.inl ⟨by decide, hi⟩)) (fun j j1 j2 => hc 264 j (Or.inr ⟨rfl, j1, j2⟩)) (Nat.le_refl _)⟩
theorem RW_M (h : RW G R M s) : M ≤ 92000 ∧ 20000 ≤ M := by
  obtain ⟨w1, w2, w3, w4, w5, w6, w7⟩ := h
  omega
/-- putFor -/
theorem s_251 {d b S y ev b0 b1 : Nat} {As Bs : List (List Nat)} {L : List Nat} {sc : Nat → Prop} {a1 a2 : Int32} (hW : RW G R M s) (hT : TYN s) (hG : GC s) (h64 : (s.1 64).toInt = (P : Int)) (hP : 100000 ≤ P) (hP2 : P ≤ 199800) (hy : wT G b sc S s y L) (hV : EV s ev P b0 As b1 Bs) (hev : ev < 300) (h1 : a1.toInt = (y : Int)) (h2 : a2.toInt = (ev : Int)) : Tot (d + 3) 251 [.ref 213, .int a1, .int a2] s (fun v s' => ∃ r : Int32, v = some (.int r) ∧ JF [64, 71, 72, 111] R M P E s s' ∧ RW G R M s' ∧ ((r.toInt = 0 ∧ (s'.1 111).toInt = 0 ∧ s'.1 64 = s.1 64) ∨ (r.toInt = 1 ∧ (s'.1 111).toInt = 1 ∧ ¬ (s.1 111).toInt = 0 ∧ ∃ N : Nat, N = (subs (envS b0 As b1 Bs) L).length ∧ N ≤ 60 ∧ s'.1 71 = s.1 64 ∧ (s'.1 72).toInt = (N : Int) ∧ (s'.1 64).toInt = (P : Int) + N ∧ seg s' P N = subs (envS b0 As b1 Bs) L))) := by
  obtain ⟨M92, M20⟩ := RW_M hW
  have no : JF [64, 71, 72, 111] R M P E s (sf s 111 0) := JF_sf (JF_rf hT hG) (by decide)
  refine t_251 ?_
  unfold w_251_0 w_251_18 w_251_19
  refine ⟨fun _ => ⟨Or.inl rfl, ?_⟩, fun hne => ?_⟩
  · rintro s1 rfl
    exact ⟨Or.inl rfl, 0, rfl, no, RW_eq (s := s) hW rfl rfl (Or.inl rfl) (fun _ _ _ => rfl), Or.inl ⟨rfl, rfl, rfl⟩⟩
  · obtain ⟨p, l, n1, n2, n3, n4, n5, n6⟩ := hy
    obtain ⟨m1, m2, m3, m4, m5⟩ := id n1
    rw [show a1.toInt.toNat = y by omega]
    refine ⟨by omega, by omega, ?_⟩
    refine Tot.imp (s_191 (d := d) (e := ev) (P := P) (p := p) (l := l) hT hG h64 hV hev m2 m3 h2 (by omega) (by omega)) ?_
    rintro v t ⟨x3, rfl, hPF, hk, hr⟩
    rw [n4] at hr
    have tG : GC t := fun i => by rw [hPF.1 265 i (fun w => by omega)]; exact hG i
    have tJ : JF [64, 71, 72, 111] R M P E s t := ⟨fun k hk' => hk k (fun w => hk' ((show ∀ k ∈ [64, 71, 72], k ∈ [64, 71, 72, 111] by decide) k w)), fun q i _ w2 _ _ => hPF.1 q i (fun w => w2 ⟨w.1, Or.inr w.2.1⟩), hPF.2.1, hPF.2.2, tG⟩
    have tW : ∀ v : Int32, v.toInt = 0 ∨ v.toInt = 1 → RW G R M (sf t 111 v) := fun v hv => RW_eq (s := s) hW (by show t.1 112 = _; exact hk 112 (by decide)) (by show t.1 118 = _; exact hk 118 (by decide)) hv (fun q i hq => hPF.1 q i (fun w => by
      rcases hq with ⟨hq, -⟩ | hq
      · rw [w.1] at hq
        revert hq
        decide
      · omega))
    refine ⟨x3, rfl, fun hx => ⟨Or.inl rfl, ?_⟩, fun hx => ⟨Or.inr rfl, ?_⟩⟩
    · rintro s1 rfl
      rcases hr with ⟨-, g2, -⟩ | ⟨g1, -⟩
      · exact ⟨Or.inl rfl, 0, rfl, JF_sf tJ (by decide), tW 0 (Or.inl rfl), Or.inl ⟨rfl, rfl, by show t.1 64 = _; rw [g2]⟩⟩
      · omega
    · rintro s1 rfl
      rcases hr with ⟨g1, -⟩ | ⟨g1, N, k1, k2, k3, k4, k5, k6⟩
      · exact absurd g1 hx
      · refine ⟨Or.inr rfl, 1, rfl, JF_sf tJ (by decide), tW 1 (Or.inr rfl), Or.inr ⟨rfl, rfl, hne, N, k1, k2, k3, k4, k5, Eq.trans (seg_2 (s := t) ?_) k6⟩⟩
        rfl
theorem seg_drop {p l i : Nat} {s : yS} (h : i ≤ l) : (seg s p l).drop i = seg s (p + i) (l - i) := by
  have e : seg s p l = seg s p i ++ seg s (p + i) (l - i) := by
    rw [← seg_add, show i + (l - i) = l by omega]
  rw [e, List.drop_append_of_le_length (by rw [seg_len]; omega), List.drop_eq_nil_of_le (by rw [seg_len]; omega)]
  rfl
/-- addTypes -/
theorem s_252 {d b S y ev b0 b1 : Nat} {As Bs : List (List Nat)} {L : List Nat} {sc : Nat → Prop} {a1 a2 : Int32} (hW : RW G R M s) (hT : TYN s) (hG : GC s) (h64 : (s.1 64).toInt = (P : Int)) (hP : 100000 ≤ P) (hP2 : P ≤ 199800) (hy : wT G b sc S s y L) (hV : EV s ev P b0 As b1 Bs) (hok : okL G 1 (subs (envS b0 As b1 Bs) L)) (hev : ev < 300) (h1 : a1.toInt = (y : Int)) (h2 : a2.toInt = (ev : Int)) : Tot (d + 4) 252 [.ref 213, .int a1, .int a2] s (fun v s' => v = none ∧ JF [64, 71, 72, 111, 112, 118] R M P E s s' ∧ s'.1 64 = s.1 64 ∧ ∃ R' M' : Nat, RW G R' M' s' ∧ R ≤ R' ∧ M ≤ M') := by
  refine t_252 ?_
  unfold w_252_0
  refine Tot.imp (Tot.mono (by omega) (s_251 (d := d) (E := E) hW hT hG h64 hP hP2 hy hV hev h1 h2)) ?_
  rintro v t ⟨x3, rfl, tJ, tW, hr⟩
  refine ⟨x3, rfl, fun hx => ?_, fun hx => ?_⟩
  · obtain ⟨-, t111, -, N, n1, n2, n3, n4, n5, n6⟩ := hr.resolve_left (fun w => hx w.1)
    have hn : N = (subs (envS b0 As b1 Bs) L).length := n1
    rw [← n6] at hok
    have e71 : (t.1 71).toInt = (P : Int) := by rw [n3]; exact h64
    refine ⟨fun z1 z2 z3 z4 z5 z6 w => z3 = s.1 64 ∧ z4 = t.1 71 ∧ z5 = t.1 72 ∧ ∃ (i R' M' : Nat), z6.toInt = (P : Int) + i ∧ i ≤ N ∧ JF [111, 112, 118] R M P E t w ∧ seg w P N = seg t P N ∧ RW G R' M' w ∧ R ≤ R' ∧ M ≤ M', fun _ _ _ _ _ z6 _ => (300000 - z6.toInt).toNat, ⟨rfl, rfl, rfl, 0, R, M, by omega, by omega, JF_rf tJ.2.2.2.1 tJ.2.2.2.2, rfl, tW, Nat.le_refl _, Nat.le_refl _⟩, ?_⟩
    rintro z1 z2 z3 z4 z5 z6 w ⟨e3, e4, e5, i, R', M', i1, i2, wJ, wS, wW, k1, k2⟩
    have e3 := e3.symm
    have e4 := e4.symm
    have e5 := e5.symm
    subst e3 e4 e5
    unfold w_252_17
    refine ⟨by omega, fun x1 hx1 => ⟨fun hend => ?_, fun hmore => ?_⟩⟩
    · rintro s2 rfl
      exact ⟨rfl, JF_sf (JF_tr (JF_mo tJ (by decide) (Nat.le_refl _) (Nat.le_refl _) (Nat.le_refl _) (Nat.le_refl _)) wJ (by decide) (Nat.le_refl _) (Nat.le_refl _) (Nat.le_refl _) (Nat.le_refl _)) (by decide), rfl, R', M', RW_eq (s := w) wW rfl rfl wW.2.2.2.2.2.1 (fun _ _ _ => rfl), k1, k2⟩
    · have hiN : i < N := by omega
      obtain ⟨A, B, e, hA⟩ := isF_at hok.1 (by rw [seg_len]; exact hiN)
      have okA := okL_sub hok e hA
      rw [← wS, seg_drop (by omega)] at e
      obtain ⟨sA, -, eL⟩ := seg_cut e
      have hA60 : A.length ≤ 60 := by omega
      obtain ⟨M92, M20⟩ := RW_M wW
      refine Tot.imp (Tot.mono (by omega) (s_186 (d := 0) (p := P + i) (l := A.length) wJ.2.2.2.1 (by omega) (by omega) (by rw [sA]; exact hA))) ?_
      rintro v s3 ⟨es, x5, rfl, hx5⟩
      have es := es.symm
      subst es
      refine ⟨x5, rfl, by omega, fun x6 hx6 => ?_⟩
      refine Tot.imp (Tot.mono (by omega) (s_250 (d := 0) (p := P + i) (l := A.length) (m := 1) wW wJ.2.2.2.1 (by decide) (by omega) (by omega) (by omega) (Or.inr (by omega)) (by rw [sA]; exact ⟨okA.1, okA.2.1, fun _ => ⟨okA, hA60⟩, fun z => absurd z (by decide)⟩))) ?_
      rintro v f ⟨rfl, fM, R2, M2, fW, g1, g2⟩
      refine ⟨rfl, by omega, fun x9 hx9 => ⟨⟨rfl, rfl, rfl, i + 1, R2, M2, by omega, by omega, JF_tr wJ (JF_mfr (P := P) (E := E) fM wJ.2.2.2.2) (by decide) k1 k2 (Nat.le_refl _) (Nat.le_refl _), ?_, fW, by omega, by omega⟩, by show (300000 - x9.toInt).toNat < (300000 - z6.toInt).toNat; omega⟩⟩
      rw [← wS]
      exact seg_eq (fun j j1 j2 => fM.2.1 264 j (fun w => by have := w.1; revert this; decide) (fun w => by omega))
  · rcases hr with ⟨-, -, g⟩ | ⟨g, -⟩
    · exact ⟨rfl, JF_mo tJ (by decide) (Nat.le_refl _) (Nat.le_refl _) (Nat.le_refl _) (Nat.le_refl _), g, R, M, tW, Nat.le_refl _, Nat.le_refl _⟩
    · omega
end JFS
