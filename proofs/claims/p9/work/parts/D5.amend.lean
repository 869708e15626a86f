/-! ===== addMethod: its end ===== -/
section AM2
variable {own : Nat → Nat × Nat} {b n N T F H S0 : Nat} {G : PG} {S O R M P E : Nat} {s w : yS}
def AEP (own : Nat → Nat × Nat) (b n N T F H S0 : Nat) (G : PG) (S R M P E : Nat) (s : yS) (v : Option Value) (s' : yS) : Prop := v = none ∧ JF jK R M P E s s' ∧ s'.1 64 = s.1 64 ∧ ∃ R' M' : Nat, IWm own b n N T F H S0 G S R' M' P s' ∧ R ≤ R' ∧ M ≤ M'
theorem am100 {d e m m' hm hi ev b0 b1 R1 M1 Q : Nat} {As Bs Zs : List (List Nat)} {fT : Nat → List Nat} {fo : Option Nat} {a1 a2 a3 a4 a5 a6 : Int32} (ih : AEH own b n N T F H S0 G S O m d) (hm6 : m' ≤ 6) (hX : JF jK R M P E s w) (hW : RW G R1 M1 w) (hR : R ≤ R1) (hM : M ≤ M1) (h64 : (w.1 64).toInt = (Q : Int)) (hQ : P ≤ Q) (hQ2 : Q ≤ 199800) (hI : IWm own b n N T F H S0 G S R M P s) (hV : JE s ev P b0 As b1 Bs) (hev : ev < E) (hE : E ≤ 280) (hτ : wEnv G (scX G fo) (envS b0 As b1 Bs)) (hok : ∀ c A, envS b0 As b1 Bs c = some A → okL G 1 A) (hfo : ∀ f, fo = some f → f < F) (hY : wY G b (scX G fo) S s (s.2.1 229 e).toInt e hm Zs) (hZ : Zs.length ≤ 6) (hL : wL G s (wE G H b n (scX G fo) (tVX G fo) S O s m) (s.2.1 224 e).toInt hm hi m' fT) (h12 : hi ≤ 12006) (hmh : hm ≤ hi) (he : e < 12006) (hP : P + 600 ≤ 199000) (hO : O ≤ 120000) (h1 : a1.toInt = (e : Int)) (h2 : a2.toInt = (ev : Int)) (h3 : a3 = s.1 64) : w_255_100 (Tot (d + 4)) a1 a2 a3 a4 a5 a6 w (AEP own b n N T F H S0 G S R M P E s) := by
  obtain ⟨c1, c2, c3, c4, c5, c6⟩ := id hI
  obtain ⟨M92, M20⟩ := RW_M c2
  have hg : gT G ≤ 24 := c1.2.2.2.2.2.2.2.2.1.1.1
  have hWG := c1.2.2.2.2.2.2.2.2.1
  have gF' : gF G = F := by rw [← c1.2.2.2.2.2.2.2.1]; exact (pgA c1.1).2.1
  have hsc := scX_ok hWG gF' hfo
  obtain ⟨ys, y1, y2, y3⟩ := hY
  unfold w_255_100
  rw [show a1.toInt.toNat = e by omega, JF_row hX (q := 229) (by decide)]
  refine ⟨by omega, ?_⟩
  refine ⟨fun z1 z2 z3 z4 z5 z6 t => z1 = a1 ∧ z2 = a2 ∧ z3 = a3 ∧ ∃ (k R' M' : Nat), k ≤ ys.length ∧ chn s z6.toInt (ys.drop k) ∧ JF jK R M P E s t ∧ RW G R' M' t ∧ R ≤ R' ∧ M ≤ M' ∧ (t.1 64).toInt = (Q : Int), fun _ _ _ _ _ z6 _ => chf s 10 z6.toInt, ⟨rfl, rfl, rfl, 0, R1, M1, by omega, y1, hX, hW, hR, hM, h64⟩, ?_⟩
  rintro z1 z2 z3 z4 z5 z6 t ⟨e1, e2, e3, k, R', M', k1, k2, k3, k4, k5, k6, k7⟩
  have e1 := e1.symm
  have e2 := e2.symm
  have e3 := e3.symm
  subst e1 e2 e3
  have fin : w_255_120 (Tot (d + 4)) a1 a2 a3 z4 z5 z6 t (AEP own b n N T F H S0 G S R M P E s) := by
    unfold w_255_120
    rintro s1 rfl
    have J1 : JF jK R M P E s (sf t 64 a3) := JF_sf k3 (by decide)
    have I1 : IWm own b n N T F H S0 G S R' M' P (sf t 64 a3) := ⟨JF_CK c1 J1 (by decide) M20 c4, RW_eq (s := t) k4 rfl rfl k4.2.2.2.2.2.1 (fun _ _ _ => rfl), by show a3.toInt = _; rw [h3]; exact c3, c4, c5, c6⟩
    have V1 : JE (sf t 64 a3) ev P b0 As b1 Bs := JE_jf hV J1 hev (Nat.le_refl _)
    have r24 : (sf t 64 a3).2.1 224 = s.2.1 224 := JF_row J1 (by decide)
    rw [show a1.toInt.toNat = e by omega, r24]
    refine ⟨by omega, ?_⟩
    have hL1 := wL_eq (JF_CA (b := b) (n := n) (O := O) (lo := hm) (hi := hi) J1 c6 M20 c4) (fun l h e' B _ _ q => wE_eq (Nat.le_refl _) (Nat.le_refl _) (JF_CA (b := b) (n := n) (O := O) J1 c6 M20 c4) q) hL
    refine Tot.imp (Tot.mono (by omega) (s_254 (lo := hm) (hi := hi) (fT := fT) ih hm6 I1 V1 hev hE hτ hok hfo hL1 h12 hP hO h2)) ?_
    rintro v f ⟨rfl, fJ, f64, R2, M2, fI, g1, g2⟩
    exact ⟨rfl, rfl, JF_tr J1 fJ (fun _ w => w) k5 k6 (Nat.le_refl _) (Nat.le_refl _), by rw [f64]; exact h3, R2, M2, fI, by omega, by omega⟩
  unfold w_255_105
  refine ⟨fun _ => fin, fun hpos => ⟨fun _ => fin, fun _ => ?_⟩⟩
  cases hdr : ys.drop k with
  | nil =>
    rw [hdr] at k2
    have : z6.toInt = -1 := k2
    omega
  | cons q ys' =>
    have hyk : ys[k]? = some q := by
      have := congrArg List.head? hdr
      rw [List.head?_drop] at this
      exact this
    have hkl : k < ys.length := by
      by_cases z : k < ys.length
      · exact z
      · rw [List.getElem?_eq_none (by omega)] at hyk
        cases hyk
    obtain ⟨p1, p2, B, p3, p4⟩ := y3 k q hyk
    have k2' := k2
    rw [hdr] at k2
    have hz : z6.toInt = (q : Int) := k2.1
    have tV : JE t ev Q b0 As b1 Bs := JE_jf hV k3 hev hQ
    have tT : wT G b (scX G fo) S t q B := wT_eq (lo := q) (hi := q + 1) (JF_CA (b := b) (n := n) (O := O) k3 c6 M20 c4) (Nat.le_refl _) (Nat.le_refl _) (by omega) p4
    have okB : okE G (scX G fo) B ∧ okBa G B := by
      obtain ⟨-, -, -, -, -, -, z⟩ := p4
      exact z
    refine Tot.imp (s_252 (d := d) (E := E) k4 k3.2.2.2.1 k3.2.2.2.2 k7 (by omega) hQ2 tT tV.1 (okL_subs hWG hsc hτ hok _ B (Nat.le_refl _) okB.1 okB.2) (by omega) hz h2) ?_
    rintro v f ⟨rfl, fJ, f64, R2, M2, fW, g1, g2⟩
    have fJ' : JF jK R M P E s f := JF_tr k3 fJ (fun _ w => w) k5 k6 hQ (Nat.le_refl _)
    have e25 : f.2.1 225 = s.2.1 225 := JF_row fJ' (by decide)
    rw [e25, show z6.toInt.toNat = q by omega]
    have hn : chn s (s.2.1 225 q).toInt (ys.drop (k + 1)) := by
      have hd := drop_get hyk
      rw [hd] at hdr
      rw [(List.cons.inj hdr).2]
      exact k2.2
    refine ⟨rfl, by omega, ⟨rfl, rfl, rfl, k + 1, R2, M2, by omega, hn, fJ', fW, by omega, by omega, by rw [f64]; exact k7⟩, ?_⟩
    show chf s 10 (s.2.1 225 q).toInt < chf s 10 z6.toInt
    rw [chf_eq (by rw [List.length_drop]; omega) hn, chf_eq (by rw [List.length_drop]; omega) k2', List.length_drop, List.length_drop]
    omega
end AM2
