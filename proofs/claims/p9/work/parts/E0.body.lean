/-! ===== addBody: its env and its E ===== -/
def bK : List Nat := [64, 70, 71, 72, 73, 74, 78, 111, 112, 118]
def ABP (own : Nat → Nat × Nat) (b n N T F H S0 : Nat) (G : PG) (S R M P E : Nat) (s : yS) (v : Option Value) (s' : yS) : Prop := v = none ∧ JF bK R M P E s s' ∧ s'.1 70 = s.1 70 ∧ ∃ R' M' : Nat, IWm own b n N T F H S0 G S R' M' P s' ∧ R ≤ R' ∧ M ≤ M'
section AB
variable {own : Nat → Nat × Nat} {b n N T F H S0 : Nat} {G : PG} {S O R M P E : Nat} {s z : yS}
theorem okL_vs {L : List Nat} {v : Nat} {Vs : List (List Nat)} (hc : cutT L v Vs) (h : okL G 1 L) : ∀ D ∈ Vs, okL G 1 D := by
  intro D hD
  obtain ⟨X, Y, e⟩ := List.append_of_mem hD
  refine okL_sub (i := 1 + X.flatten.length) (B := Y.flatten) h ?_ (hc.2.1 D hD)
  rw [hc.1, e, List.flatten_append, List.flatten_cons, Nat.add_comm, List.drop_succ_cons, List.drop_left]
theorem envS_mem {b0 b1 c : Nat} {As Bs : List (List Nat)} {A : List Nat} (h : envS b0 As b1 Bs c = some A) : A ∈ As ∨ A ∈ Bs := by
  have gm : ∀ {b0 : Nat} {As : List (List Nat)}, grp b0 As c = some A → A ∈ As := fun {b0 As} h => by
    unfold grp at h
    split at h
    · exact List.mem_of_getElem? h
    · cases h
  by_cases hc : c < 1000
  · rw [envS_lt hc] at h
    cases h
  · cases hg : grp b0 As c with
    | none => exact Or.inr (gm ((envS_2 (b1 := b1) (Bs := Bs) (by omega) hg).symm.trans h))
    | some B => exact Or.inl (gm (hg.trans ((envS_1 (b1 := b1) (Bs := Bs) (by omega) hg).symm.trans h)))
theorem ab189 {d l Q kf g R1 M1 : Nat} {Vs Ds : List (List Nat)} {a1 a2 a3 a4 a5 a6 a7 a8 a9 a10 a11 a12 : Int32} (ih : AEH own b n N T F H S0 G S O 11 d) (hd : 1 ≤ d) (hI : IWm own b n N T F H S0 G S R M P s) (hPT : PT b n N F H G S O s) (hN : N ≤ 12006) (hO : O ≤ 120000) (h70 : (s.1 70).toInt = (E : Int)) (hE : E ≤ 279) (hJ : JF bK R M P E s z) (hW : RW G R1 M1 z) (hR : R ≤ R1) (hM : M ≤ M1) (z70 : (z.1 70).toInt = (E : Int) + 1) (z64 : (z.1 64).toInt = (Q : Int)) (hQ : Q + 600 ≤ 199000) (hPQ : P + l ≤ Q) (hseg : seg z (P + l) (Q - (P + l)) = Ds.flatten) (hDs : ∀ D ∈ Ds, okL G 1 D) (hVs : ∀ D ∈ Vs, okL G 1 D) (hD6 : Ds.length ≤ 6) (f1 : kf < F) (f2 : g = gfh G kf) (hτ : wEnv G (scHg G g) (envS (4000 + 6 * kf) Vs (2000 + 6 * g) Ds)) (hEV : EVg z (2 * E) (4000 + 6 * kf) Q Vs) (hEV2 : ∀ a, a < Vs.length → 100000 ≤ (z.2.1 267 (12 * E + a)).toInt) (z265 : (z.2.1 265 (2 * E + 1)).toInt = ((2000 + 6 * g : Nat) : Int)) (z266 : (z.2.1 266 (2 * E + 1)).toInt = (Ds.length : Int)) (h5 : a5 = s.1 64) (h9 : a9.toInt = 60 * (b : Int) + kf) (h10 : a10.toInt = (E : Int)) (h11 : a11.toInt = 2 * (E : Int) + 1) (h12 : a12.toInt = (P : Int) + l) : wl_256_189 (Tot d) a1 a2 a3 a4 a5 a6 a7 a8 a9 a10 a11 a12 0 z (ABP own b n N T F H S0 G S R M P E s) := by
  obtain ⟨c1, c2, c3, c4, c5, c6⟩ := id hI
  obtain ⟨M92, M20⟩ := RW_M c2
  have hb2 := c1.1.1
  have hF60 := c1.1.2.2.2.1
  refine ⟨fun z1 z2 z3 z4 z5 z6 z7 z8 z9 z10 z11 z12 z13 w => z5 = a5 ∧ z9 = a9 ∧ z10 = a10 ∧ z11 = a11 ∧ w.1 = z.1 ∧ w.2.2 = z.2.2 ∧ (∀ q i, ¬ ((q = 267 ∨ q = 268) ∧ 12 * E + 6 ≤ i) → w.2.1 q i = z.2.1 q i) ∧ ∃ a k : Nat, z13.toInt = (a : Int) ∧ a ≤ Ds.length ∧ z12.toInt = (k : Int) ∧ P + l ≤ k ∧ k ≤ Q ∧ seg z k (Q - k) = (Ds.drop a).flatten ∧ ∀ (a' : Nat) (A : List Nat), a' < a → Ds[a']? = some A → ∃ q : Nat, (w.2.1 267 (12 * E + 6 + a')).toInt = (q : Int) ∧ (w.2.1 268 (12 * E + 6 + a')).toInt = (A.length : Int) ∧ seg z q A.length = A ∧ q + A.length ≤ Q ∧ 100000 ≤ q, fun _ _ _ _ _ _ _ _ _ _ _ _ z13 _ => (100 - z13.toInt).toNat, ⟨rfl, rfl, rfl, rfl, rfl, rfl, fun _ _ _ => rfl, 0, P + l, rfl, by omega, h12, Nat.le_refl _, hPQ, hseg, fun a' _ h => by omega⟩, ?_⟩
  rintro z1 z2 z3 z4 z5 z6 z7 z8 z9 z10 z11 z12 z13 w ⟨e5, e9, e10, e11, w1, w2, w3, a, k, k1, k2, k3, k4, k5, k6, k7⟩
  have e5 := e5.symm
  have e9 := e9.symm
  have e10 := e10.symm
  have e11 := e11.symm
  subst e5 e9 e10 e11
  have wJ : JF bK R M P E s w := by
    refine ⟨fun q hq => by rw [w1]; exact hJ.1 q hq, fun q i x1 x2 x3 x4 => ?_, w2.trans hJ.2.2.1, fun i => by rw [w3 264 i (fun x => by omega)]; exact hJ.2.2.2.1 i, fun i => by rw [w3 265 i (fun x => by omega)]; exact hJ.2.2.2.2 i⟩
    rw [w3 q i (fun x => x4 ⟨x.1, by omega⟩)]
    exact hJ.2.1 q i x1 x2 x3 x4
  have wW : RW G R1 M1 w := RW_eq hW (by rw [w1]) (by rw [w1]) (by rw [w1]; exact hW.2.2.2.2.2.1) (fun q i hq => w3 q i (fun x => by
    rcases hq with ⟨hq, -⟩ | hq
    · simp only [List.mem_cons, List.not_mem_nil, or_false] at hq
      omega
    · omega))
  unfold w_256_189
  rw [show a11.toInt.toNat = 2 * E + 1 by omega, w3 266 _ (fun x => by omega)]
  refine ⟨by omega, fun hend => ?_, fun hmore => ⟨by omega, fun x8 hx8 => ⟨by omega, fun x9 hx9 => ⟨by omega, ?_⟩⟩⟩⟩
  · rintro s1 rfl
    have ea : a = Ds.length := by omega
    clear k6 hseg
    have r58 : (sf w 78 a9).2.1 258 = s.2.1 258 := by show w.2.1 258 = _; exact JF_row wJ (by decide)
    rw [r58, show a9.toInt.toNat = 60 * b + kf by omega]
    refine ⟨by omega, ?_⟩
    obtain ⟨eb, lb, hb', Ab, b1, b2, b3, b4, b5⟩ := hPT kf f1
    have J1 : JF bK R M P E s (sf w 78 a9) := JF_sf wJ (by decide)
    have I1 : IWm own b n N T F H S0 G S R1 M1 Q (sf w 78 a9) := ⟨JF_CK c1 J1 (by decide) M20 c4, RW_eq (s := w) wW rfl rfl wW.2.2.2.2.2.1 (fun _ _ _ => rfl), by show (w.1 64).toInt = _; rw [w1]; exact z64, by omega, by omega, c6⟩
    have lt : ∀ {α : Type} {L : List α} {a : Nat} {A : α}, L[a]? = some A → a < L.length := fun {α L a A} h => by
      by_cases q : a < L.length
      · exact q
      · rw [List.getElem?_eq_none (by omega)] at h
        cases h
    have V1 : JE (sf w 78 a9) E Q (4000 + 6 * kf) Vs (2000 + 6 * g) Ds := by
      refine ⟨⟨EVg_mv (s := z) hEV (w3 _ _ (fun x => by omega)) (w3 _ _ (fun x => by omega)) (fun a ha => ⟨w3 _ _ (fun x => by omega), w3 _ _ (fun x => by omega)⟩) (fun j _ => w3 _ _ (fun x => by omega)) (Nat.le_refl _), ?_, ?_, hD6, fun a' A hA => ?_⟩, fun a' ha => ?_, fun a' ha => ?_⟩
      · show (w.2.1 265 _).toInt = _
        rw [w3 265 _ (fun x => by omega)]
        exact z265
      · show (w.2.1 266 _).toInt = _
        rw [w3 266 _ (fun x => by omega)]
        exact z266
      · obtain ⟨q, q1, q2, q3, q4, q5⟩ := k7 a' A (by have := lt hA; omega) hA
        rw [show 6 * (2 * E + 1) + a' = 12 * E + 6 + a' by omega]
        refine ⟨(hDs A (List.mem_of_getElem? hA)).1, q, q1, q2, ?_, q4⟩
        refine Eq.trans (seg_eq (s := z) (fun j _ _ => ?_)) q3
        exact w3 264 j (fun x => by omega)
      · show 100000 ≤ (w.2.1 267 _).toInt
        rw [w3 267 _ (fun x => by have := hEV.2.2.1; omega)]
        exact hEV2 a' ha
      · obtain ⟨q, q1, -, -, -, q5⟩ := k7 a' Ds[a'] (by omega) (List.getElem?_eq_getElem ha)
        show 100000 ≤ (w.2.1 267 _).toInt
        omega
    have hok : ∀ c A, envS (4000 + 6 * kf) Vs (2000 + 6 * g) Ds c = some A → okL G 1 A := fun c A hc => by
      rcases envS_mem hc with q | q
      · exact hVs A q
      · exact hDs A q
    refine Tot.imp (ih (sf w 78 a9) _ a10 (some kf) lb hb' eb E (4000 + 6 * kf) (2000 + 6 * g) R1 M1 Q (E + 1) Vs Ds Ab I1 V1 (by omega) (by omega) (by show wEnv G (scHg G (gfh G kf)) _; rw [← f2]; exact hτ) hok (fun f' hf' => by cases hf'; exact f1) (wE_eq (Nat.le_refl _) (Nat.le_refl _) (JF_CA (b := b) (n := n) (O := O) J1 c6 M20 c4) b4) (by omega) hQ hO b1 h10) ?_
    rintro v t ⟨rfl, tJ, t64, R2, M2, tI, g1, g2⟩
    refine ⟨rfl, ?_⟩
    rintro s4 rfl
    have t70 : (sf t 78 (w.1 78)).1 70 = z.1 70 := by
      show t.1 70 = _
      rw [tJ.1 70 (by decide)]
      show w.1 70 = _
      rw [w1]
    rw [t70]
    refine ⟨by omega, ?_⟩
    rintro x5 hx5 s6 rfl s7 rfl
    have J2 : JF bK R M P E s (sf (sf (sf t 78 (w.1 78)) 70 x5) 64 a5) := JF_sf (JF_sf (JF_sf (JF_tr J1 tJ (by decide) hR hM (by omega) (by omega)) (by decide)) (by decide)) (by decide)
    refine ⟨rfl, J2, ?_, R2, M2, ⟨JF_CK c1 J2 (by decide) M20 c4, RW_eq (s := t) tI.2.1 rfl rfl tI.2.1.2.2.2.2.2.1 (fun _ _ _ => rfl), by show a5.toInt = _; rw [h5]; exact c3, c4, c5, c6⟩, by omega, by omega⟩
    show x5 = s.1 70
    exact Int32.toInt_inj.mp (by omega)
  · rintro s10 rfl
    rw [show x9.toInt.toNat = 12 * E + 6 + a by omega]
    refine ⟨by omega, fun x11 hx11 => ⟨by omega, fun x12 hx12 => ?_⟩⟩
    have hal : a < Ds.length := by omega
    have hDa : Ds[a]? = some Ds[a] := List.getElem?_eq_getElem hal
    have hdr : Ds.drop a = Ds[a] :: Ds.drop (a + 1) := drop_get hDa
    rw [hdr, List.flatten_cons] at k6
    obtain ⟨q1, q2, q3⟩ := seg_cut k6
    have oA := hDs Ds[a] (List.getElem_mem hal)
    have sgA : ∀ f : yS, (∀ j, f.2.1 264 j = z.2.1 264 j) → seg f k Ds[a].length = Ds[a] := fun f hf => (seg_eq (fun j _ _ => hf j)).trans q1
    have c64 : ∀ j, (sa w 267 (12 * E + 6 + a) z12).2.1 264 j = z.2.1 264 j := fun j => by
      rw [sa_2, if_neg (fun x => by omega)]
      exact w3 264 j (fun x => by omega)
    refine Tot.imp (Tot.mono hd (s_186 (d := 0) (p := k) (l := Ds[a].length) (fun j => by rw [c64]; exact hJ.2.2.2.1 j) k3 (by omega) (by rw [sgA _ c64]; exact oA.1))) ?_
    rintro v f ⟨rfl, x15, rfl, hx15⟩
    refine ⟨x15, rfl, by omega, fun x16 hx16 => ⟨by omega, ?_⟩⟩
    rintro s17 rfl
    rw [show x12.toInt.toNat = 12 * E + 6 + a by omega]
    have c65 : ∀ j, (sa (sa w 267 (12 * E + 6 + a) z12) 268 (12 * E + 6 + a) x16).2.1 264 j = z.2.1 264 j := fun j => by
      rw [sa_2, if_neg (fun x => by omega)]
      exact c64 j
    refine Tot.imp (Tot.mono hd (s_186 (d := 0) (p := k) (l := Ds[a].length) (fun j => by rw [c65]; exact hJ.2.2.2.1 j) k3 (by omega) (by rw [sgA _ c65]; exact oA.1))) ?_
    rintro v f ⟨rfl, x20, rfl, hx20⟩
    refine ⟨x20, rfl, by omega, fun x21 hx21 => ⟨⟨rfl, rfl, rfl, rfl, w1, w2, fun q i x => ?_, a + 1, k + Ds[a].length, by omega, by omega, by omega, by omega, by omega, ?_, fun a' A ha' hA => ?_⟩, by show (100 - x21.toInt).toNat < (100 - z13.toInt).toNat; omega⟩⟩
    · rw [sa_2, if_neg (fun y => x ⟨Or.inr y.1, by omega⟩), sa_2, if_neg (fun y => x ⟨Or.inl y.1, by omega⟩)]
      exact w3 q i x
    · rw [show Q - (k + Ds[a].length) = (Ds.drop (a + 1)).flatten.length by omega]
      exact q2
    · by_cases ea : a' = a
      · subst ea
        rw [hDa] at hA
        have hA := Option.some.inj hA
        subst hA
        refine ⟨k, ?_, ?_, q1, by omega, by omega⟩
        · rw [sa_2, if_neg (fun y => by omega), sa_2, if_pos ⟨rfl, rfl⟩]
          exact k3
        · rw [sa_2, if_pos ⟨rfl, rfl⟩]
          omega
      · obtain ⟨q, p1, p2, p3⟩ := k7 a' A (by omega) hA
        refine ⟨q, ?_, ?_, p3⟩
        · rw [sa_2, if_neg (fun y => by omega), sa_2, if_neg (fun y => by omega)]
          exact p1
        · rw [sa_2, if_neg (fun y => by omega), sa_2, if_neg (fun y => by omega)]
          exact p2
end AB
