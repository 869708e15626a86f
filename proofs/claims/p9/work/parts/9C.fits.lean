/-! ===== fits ===== -/
/-- the work on TYPES: fields ks, ty from P on, envs from E on -/
def XF (ks : List Nat) (P E : Nat) (s s' : yS) : Prop := (∀ k, k ∉ ks → s'.1 k = s.1 k) ∧ (∀ q i, ¬ (q = 264 ∧ P ≤ i) → ¬ ((q = 265 ∨ q = 266) ∧ 2 * E ≤ i) → ¬ ((q = 267 ∨ q = 268) ∧ 12 * E ≤ i) → s'.2.1 q i = s.2.1 q i) ∧ s'.2.2 = s.2.2 ∧ TYN s' ∧ GC s'
section XFS
variable {ks ks' : List Nat} {P P' E E' : Nat} {s s' s'' : yS}
theorem XF_rf (hT : TYN s) (hG : GC s) : XF ks P E s s := ⟨fun _ _ => rfl, fun _ _ _ _ _ => rfl, rfl, hT, hG⟩
theorem XF_tr (h : XF ks P E s s') (h' : XF ks' P' E' s' s'') (hk : ∀ k, k ∈ ks' → k ∈ ks) (hP : P ≤ P') (hE : E ≤ E') : XF ks P E s s'' := ⟨fun k w => (h'.1 k (fun w' => w (hk k w'))).trans (h.1 k w), fun q i h1 h2 h3 => (h'.2.1 q i (fun w => h1 ⟨w.1, by omega⟩) (fun w => h2 ⟨w.1, by omega⟩) (fun w => h3 ⟨w.1, by omega⟩)).trans (h.2.1 q i h1 h2 h3), h'.2.2.1.trans h.2.2.1, h'.2.2.2.1, h'.2.2.2.2⟩
theorem XF_mo (h : XF ks' P' E' s s') (hk : ∀ k, k ∈ ks' → k ∈ ks) (hP : P ≤ P') (hE : E ≤ E') : XF ks P E s s' := ⟨fun k w => h.1 k (fun w' => w (hk k w')), fun q i h1 h2 h3 => h.2.1 q i (fun w => h1 ⟨w.1, by omega⟩) (fun w => h2 ⟨w.1, by omega⟩) (fun w => h3 ⟨w.1, by omega⟩), h.2.2⟩
theorem XF_sf {k : Nat} {v : Int32} (h : XF ks P E s s') (hk : k ∈ ks) : XF ks P E s (sf s' k v) := ⟨fun j hj => by
  rw [sf_1, if_neg (fun w => hj (by rw [w]; exact hk))]
  exact h.1 j hj, h.2⟩
/-- a field put back as it was -/
theorem XF_back {k : Nat} (h : XF (k :: ks) P E s s') : XF ks P E s (sf s' k (s.1 k)) := ⟨fun j hj => by
  rw [sf_1]
  split
  · rename_i w; rw [w]
  · rename_i w
    exact h.1 j (fun w' => (List.mem_cons.mp w').elim w hj), h.2⟩
theorem XF_fo (h : XF ks P E s s') (hF : FO s' s'') (h8 : 8 ∈ ks) : XF ks P E s s'' := by
  have e2 := FO_2 hF
  refine ⟨fun k hk => ?_, fun q i h1 h2 h3 => by rw [e2]; exact h.2.1 q i h1 h2 h3, by rw [e2]; exact h.2.2.1, fun i => by rw [e2]; exact h.2.2.2.1 i, fun i => by rw [e2]; exact h.2.2.2.2 i⟩
  rw [FO_1 hF (fun w => hk (by rw [w]; exact h8))]
  exact h.1 k hk
theorem XF_row {q : Nat} (h : XF ks P E s s') (hq : q ∉ [264, 265, 266, 267, 268]) : s'.2.1 q = s.2.1 q := by
  funext i
  refine h.2.1 q i (fun w => hq (by rw [w.1]; decide)) (fun w => hq ?_) (fun w => hq ?_)
  · rcases w.1 with w | w <;> rw [w] <;> decide
  · rcases w.1 with w | w <;> rw [w] <;> decide
theorem XF_seg {p l : Nat} (h : XF ks P E s s') (hp : p + l ≤ P) : seg s' p l = seg s p l := seg_eq (fun i _ h2 => h.2.1 264 i (fun w => by omega) (fun w => by omega) (fun w => by omega))
theorem EV_xf {e b0 b1 Q : Nat} {As Bs : List (List Nat)} (h : EV s e Q b0 As b1 Bs) (hw : XF ks P E s s') (he : e < E) (hP : Q ≤ P) : EV s' e Q b0 As b1 Bs := by
  have cell : ∀ q i, (q = 265 ∨ q = 266) ∧ i < 2 * E ∨ (q = 267 ∨ q = 268) ∧ i < 12 * E ∨ q = 264 ∧ i < P → s'.2.1 q i = s.2.1 q i := fun q i hq => hw.2.1 q i (fun w => by omega) (fun w => by omega) (fun w => by omega)
  exact ⟨EVg_mv h.1 (cell _ _ (by omega)) (cell _ _ (by omega)) (fun a ha => ⟨cell _ _ (by omega), cell _ _ (by omega)⟩) (fun j hj => cell _ _ (by omega)) (Nat.le_refl _), EVg_mv h.2 (cell _ _ (by omega)) (cell _ _ (by omega)) (fun a ha => ⟨cell _ _ (by omega), cell _ _ (by omega)⟩) (fun j hj => cell _ _ (by omega)) (Nat.le_refl _)⟩
theorem tbR_n : ∀ p ∈ tbR, p ∉ [264, 265, 266, 267, 268] := by decide
theorem NL_row {b n N : Nat} (hr : ∀ q, q ∉ [264, 265, 266, 267, 268] → s'.2.1 q = s.2.1 q) : NL b n N s s' := by
  refine ⟨fun t _ _ => ⟨by rw [hr 215 (by decide)], by rw [hr 217 (by decide)]⟩, fun x _ _ => ⟨⟨by rw [hr 221 (by decide)], by rw [hr 222 (by decide)], by rw [hr 223 (by decide)], by rw [hr 224 (by decide)], by rw [hr 227 (by decide)], by rw [hr 229 (by decide)], fun _ => by rw [hr 226 (by decide)], fun _ => by rw [hr 230 (by decide)]⟩, by rw [hr 225 (by decide)], by rw [hr 228 (by decide)]⟩, fun p i hp _ _ => ?_⟩
  rw [hr p (tbR_n p hp)]
theorem CK_xf {own : Nat → Nat × Nat} {b n N T F H S0 : Nat} {G : PG} (h : CK own b n N T F H S0 G s) (hw : XF ks P E s s') (h75 : 75 ∉ ks) (hP : 13000 ≤ P) : CK own b n N T F H S0 G s' := by
  have hb := h.1.1
  have hS := h.2.2.2.2.2.2.2.2.2
  refine CK_eq h (NL_row (fun q hq => XF_row hw hq)) (fun y _ _ _ => ⟨by rw [XF_row hw (by decide)], by rw [XF_row hw (by decide)]⟩) (fun j hj => hw.2.1 264 j (fun w => by omega) (fun w => by omega) (fun w => by omega)) (fun i _ _ => by rw [XF_row hw (by decide)]) hw.2.2.2.1 hw.2.2.2.2 (by rw [hw.1 75 h75]; exact h.2.2.2.2.2.2.1)
theorem Lx_xf {b n W : Nat} (h : Lx b n W s) (hw : XF ks P E s s') : Lx b n W s' := Lx_eq h (XF_row hw (by decide)) (XF_row hw (by decide)) (XF_row hw (by decide))
theorem NY_xf {y p l : Nat} (h : NY s y p l) (hw : XF ks P E s s') : NY s' y p l := by
  unfold NY
  rw [XF_row hw (show 231 ∉ [264, 265, 266, 267, 268] by decide), XF_row hw (show 232 ∉ [264, 265, 266, 267, 268] by decide)]
  exact h
end XFS
/-- a fault, at most -/
def f8 (s s' : yS) : Prop := (0 ≤ (s'.1 8).toInt ∧ (s'.1 8).toInt ≤ 70000) ∧ ((s'.1 8).toInt = 0 → (s.1 8).toInt = 0)
theorem f8_rf {s : yS} (h : 0 ≤ (s.1 8).toInt ∧ (s.1 8).toInt ≤ 70000) : f8 s s := ⟨h, fun w => w⟩
theorem f8_tr {s s' s'' : yS} (h : f8 s s') (h' : f8 s' s'') : f8 s s'' := ⟨h'.1, fun w => h.2 (h'.2 w)⟩
theorem f8_fo {s s' : yS} (hF : FO s s') (hne : ¬ (s'.1 8).toInt = 0) : f8 s s' := ⟨FO_8 hF, fun w => absurd w hne⟩
theorem f8_eq {s s' : yS} (h : 0 ≤ (s.1 8).toInt ∧ (s.1 8).toInt ≤ 70000) (e : s'.1 8 = s.1 8) : f8 s s' := by
  unfold f8
  rw [e]
  exact ⟨h, fun w => w⟩
theorem s_212 {own : Nat → Nat × Nat} {e b n N T F H S0 bt n2 W P E p l y p2 l2 ev b0 b1 : Nat} {G : PG} {sc sc2 : Nat → Prop} {As Bs : List (List Nat)} {a1 a2 a3 a4 a5 : Int32} {s : yS} (hC : CK own b n N T F H S0 G s) (hL : Lx bt n2 W s) (h8 : 0 ≤ (s.1 8).toInt ∧ (s.1 8).toInt ≤ 70000) (hP : (s.1 64).toInt = (P : Int)) (hP1 : 13000 ≤ P) (hP2 : P ≤ 199600) (hE : (s.1 70).toInt = (E : Int)) (hE2 : E ≤ 290) (h1 : a1.toInt = (p : Int)) (h2 : a2.toInt = (l : Int)) (hpl : p + l ≤ P) (hsc : scC G H sc) (hS : okE G sc (seg s p l)) (h3 : a3.toInt = (y : Int)) (hy : NY s y p2 l2) (hY : okE G sc2 (seg s p2 l2)) (h4 : a4.toInt = (ev : Int)) (hev : ev < 300) (hV : EV s ev P b0 As b1 Bs) (hcov : ∀ c, sc2 c → (∃ A, envS b0 As b1 Bs c = some A ∧ okE G sc A) ∨ (envS b0 As b1 Bs c = none ∧ sc c)) (h5 : 4002 * (bt : Int) ≤ a5.toInt ∧ a5.toInt ≤ 4002 * (bt : Int) + n2) : Tot (e + 6) 212 [.ref 213, .int a1, .int a2, .int a3, .int a4, .int a5] s (fun v s' => v = none ∧ XF [8, 71, 72, 73, 74] P E s s' ∧ f8 s s' ∧ ((s'.1 8).toInt = 0 → impl G (seg s p l) (subs (envS b0 As b1 Bs) (seg s p2 l2)) ∧ (subs (envS b0 As b1 Bs) (seg s p2 l2)).length ≤ 60)) := by
  obtain ⟨y1, y2, y3, y4, y5⟩ := id hy
  obtain ⟨c1, c2, c3, c4, c5, c6, c7, c8, c9, c10⟩ := id hC
  have e3 : a3.toInt.toNat = y := by omega
  obtain ⟨σ, hσ⟩ : ∃ σ, σ = envS b0 As b1 Bs := ⟨_, rfl⟩
  have σ0 : ∀ c, c < 1000 → σ c = none := fun c hc => by rw [hσ]; exact envS_lt hc
  have kS := okE_subs (σ := σ) c9.1.1 hY σ0 (by rw [hσ]; exact hcov)
  refine t_212 ?_
  unfold w_212_0
  rw [e3]
  refine ⟨by omega, by omega, ?_⟩
  refine Tot.imp (Tot.mono (by omega) (s_191 (d := 0) c5 c6 hP hV hev y2 y3 h4 (by omega) (by omega))) ?_
  rintro v s1 ⟨x, rfl, hPF, hk, hx⟩
  rw [← hσ] at hx ⊢
  have X1 : XF [8, 71, 72, 73, 74, 64] P E s s1 := ⟨fun k w => hk k (fun w' => w (by clear w; revert k; decide)), fun q i h1 _ _ => hPF.1 q i (fun w => h1 ⟨w.1, w.2.1⟩), hPF.2.1, hPF.2.2, fun i => by rw [hPF.1 265 i (fun w => by omega)]; exact c6 i⟩
  have h81 : s1.1 8 = s.1 8 := hk 8 (by decide)
  refine ⟨x, rfl, fun hx0 => ?_, fun hx0 => ?_⟩
  · obtain ⟨M, m1, m2, m3, m4, m5, m6⟩ := (hx.resolve_left (fun w => hx0 w.1)).2
    have C1 := CK_xf hC X1 (by decide) hP1
    obtain ⟨d1, d2, d3, d4, d5, d6, d7, d8, d9, d10⟩ := id C1
    obtain ⟨rH, rD, rF⟩ := RSx_of (fun q i hv => SYo_SY (d2 q i hv))
    have sS : seg s1 p l = seg s p l := XF_seg X1 hpl
    obtain ⟨z, Zs, cz⟩ := cutT_ex kS.1
    have vz := (okE_cut cz kS).1
    have g1 : gT G = T := by rw [← c8]; exact (pgA c1).1
    have hz6 : Zs.length ≤ 6 ∧ (z / 8 < T ∨ 1000 ≤ z / 8) := by
      rw [cz.2.2]
      rcases vz with w | w
      · have := (c9.2.1 _ w.1).1
        omega
      · omega
    refine Tot.imp (Tot.mono (by omega) (s_195 (e := 0) (P := P + M) (E := E) (p := p) (l := l) (t := P) (m := M) (x := z) (As := Zs) d1 rH rD rF d3 d4 d5 d6 d7 (by omega) (by omega) (by omega) (by rw [hk 70 (by decide)]; exact hE) hE2 h1 h2 (by rw [m3]; exact hP) m4 (by omega) (by omega) (by rw [d8, sS]; exact ok_Sub c9 g1 hsc hS) (by rw [m6]; exact cz) hz6.1 hz6.2)) ?_
    rintro v s4 ⟨hW, r, rfl, r0, r2, hr⟩
    rw [d8, sS, m6] at hr
    have X4 : XF [64, 8, 71, 72, 73, 74] P E s s4 := XF_tr (ks' := [71, 72, 73, 74]) (P' := P + M) (E' := E) (XF_mo X1 (by decide) (Nat.le_refl _) (Nat.le_refl _)) hW (by decide) (by omega) (Nat.le_refl _)
    have h84 : s4.1 8 = s.1 8 := by rw [hW.1 8 (by decide), h81]
    -- a fault
    have bad : ∀ w : Int32, 1 ≤ w.toInt ∧ w.toInt ≤ 15 → w_212_38 (Tot (e + 5)) a1 a2 a3 a4 a5 (s.1 64) r w s4 (fun v s' => v = none ∧ XF [8, 71, 72, 73, 74] P E s s' ∧ f8 s s' ∧ ((s'.1 8).toInt = 0 → impl G (seg s p l) (subs σ (seg s p2 l2)) ∧ (subs σ (seg s p2 l2)).length ≤ 60)) := by
      intro w hw
      unfold w_212_38 w_212_40
      refine Tot.imp (Tot.mono (by omega) (fo_163 (d := 0) (w := w) (Lx_xf hL X4) (by rw [h84]; exact h8) hw h5)) ?_
      rintro v s5 ⟨rfl, hF, hne⟩
      refine ⟨rfl, ?_⟩
      rintro s6 rfl
      have hne' : ¬ ((sf s5 64 (s.1 64)).1 8).toInt = 0 := hne
      have h88 : 0 ≤ ((sf s5 64 (s.1 64)).1 8).toInt ∧ ((sf s5 64 (s.1 64)).1 8).toInt ≤ 70000 := FO_8 (s := s4) (s' := s5) hF
      exact ⟨rfl, XF_back (XF_fo X4 hF (by decide)), ⟨h88, fun w => absurd w hne'⟩, fun w => absurd w hne'⟩
    refine ⟨r, rfl, fun r1 => ?_, fun r1 => ⟨fun _ => bad 9 (by decide), fun _ => bad 7 (by decide)⟩⟩
    unfold w_212_40
    rintro s6 rfl
    exact ⟨rfl, XF_back X4, f8_eq h8 h84, fun _ => ⟨hr r1, by rw [← m1]; exact m2⟩⟩
  · obtain ⟨-, m1, m2⟩ := hx.resolve_right (fun w => by omega)
    refine Tot.imp (Tot.mono (by omega) (fo_163 (d := 0) (w := 9) (Lx_xf hL X1) (by rw [h81]; exact h8) (by decide) h5)) ?_
    rintro v s5 ⟨rfl, hF, hne⟩
    have X0 : XF [8, 71, 72, 73, 74] P E s s1 := ⟨fun k _ => by rw [m1], X1.2⟩
    exact ⟨rfl, rfl, XF_fo X0 hF (by decide), ⟨FO_8 hF, fun w => absurd w hne⟩, fun w => absurd w hne⟩
