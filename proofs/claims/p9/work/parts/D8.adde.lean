/-! ===== addE ===== -/
section AE
variable {own : Nat → Nat × Nat} {b n N T F H S0 : Nat} {G : PG} {S O : Nat}
theorem AEH_mo {m d d' : Nat} (h : d ≤ d') (hA : AEH own b n N T F H S0 G S O m d) : AEH own b n N T F H S0 G S O m d' := fun s a1 a2 fo lo hi e ev b0 b1 R M P E As Bs A k1 k2 k3 k4 k5 k5' k6 k7 k8 k9 k10 k11 k12 => Tot.mono h (hA s a1 a2 fo lo hi e ev b0 b1 R M P E As Bs A k1 k2 k3 k4 k5 k5' k6 k7 k8 k9 k10 k11 k12)
theorem s_253 {m d ev b0 b1 R M P E : Nat} {As Bs : List (List Nat)} {fo : Option Nat} {s : yS} {a2 : Int32} (ih : AEH own b n N T F H S0 G S O m d) (hI : IWm own b n N T F H S0 G S R M P s) (hV : JE s ev P b0 As b1 Bs) (hev : ev < E) (hE : E ≤ 280) (hτ : wEnv G (scX G fo) (envS b0 As b1 Bs)) (hok : ∀ c A, envS b0 As b1 Bs c = some A → okL G 1 A) (hfo : ∀ f, fo = some f → f < F) (hP : P + 600 ≤ 199000) (hO : O ≤ 120000) (h2 : a2.toInt = (ev : Int)) : ∀ (p lo hi e : Nat) (A : List Nat) (a1 : Int32), hi ≤ 12006 → wEp G H b n (scX G fo) (tVX G fo) S O s (wE G H b n (scX G fo) (tVX G fo) S O s m) p lo hi e A → a1.toInt = (e : Int) → Tot (d + 6 + 2 * p) 253 [.ref 213, .int a1, .int a2] s (AEP own b n N T F H S0 G S R M P E s) := by
  obtain ⟨c1, c2, c3, c4, c5, c6⟩ := id hI
  obtain ⟨M92, M20⟩ := RW_M c2
  have hW := c1.2.2.2.2.2.2.2.2.1
  have hg : gT G ≤ 24 := hW.1.1
  have gF' : gF G = F := by rw [← c1.2.2.2.2.2.2.2.1]; exact (pgA c1.1).2.1
  have hsc := scX_ok hW gF' hfo
  have okW : ∀ (y : Nat) (B : List Nat), wT G b (scX G fo) S s y B → okL G 1 (subs (envS b0 As b1 Bs) B) := fun y B hT => by
    obtain ⟨-, -, -, -, -, -, z1, z2⟩ := hT
    exact okL_subs hW hsc hτ hok _ B (Nat.le_refl _) z1 z2
  have rf : AEP own b n N T F H S0 G S R M P E s none s := ⟨rfl, JF_rf c1.2.2.2.2.1 c1.2.2.2.2.2.1, rfl, R, M, hI, Nat.le_refl _, Nat.le_refl _⟩
  intro p
  induction p with
  | zero =>
    intro lo hi e A a1 h12 hw h1
    obtain ⟨q1, q2, q3, q4, q5, q6⟩ := hw
    refine t_253 ?_
    unfold w_253_0 w_253_9
    rw [show a1.toInt.toNat = e by omega]
    refine ⟨fun _ => rf, fun _ => ⟨by omega, fun hn1 => ?_, fun _ => rf⟩⟩
    rcases q4 with ⟨z, -⟩ | ⟨z2, y, h, y1, y2, y3, y4, y5, x, Cs, y6, y7, y8, y9⟩
    · exact absurd z hn1
    · refine ⟨by omega, fun _ => ⟨by omega, fun _ => ?_, fun z => absurd z2 z⟩, fun z => by omega⟩
      unfold w_253_34
      rw [show a1.toInt.toNat = e by omega]
      refine ⟨by omega, fun z => by omega, fun _ => ⟨by omega, ?_⟩⟩
      refine Tot.imp (Tot.mono (by omega) (s_252 (d := d) (E := E) c2 c1.2.2.2.2.1 c1.2.2.2.2.2.1 c3 c4 (by omega) y5 hV.1 (okW _ _ y5) (by omega) y1 h2)) ?_
      rintro v f ⟨rfl, fJ, f64, R2, M2, fW, g1, g2⟩
      refine ⟨rfl, ?_⟩
      have fI : IWm own b n N T F H S0 G S R2 M2 P f := ⟨JF_CK c1 fJ (by decide) M20 c4, fW, by rw [f64]; exact c3, c4, c5, c6⟩
      have h6 := (hW.2.1 _ y7).2.1
      unfold w_253_47 w_253_60
      rw [show a1.toInt.toNat = e by omega, JF_row fJ (q := 221) (by decide), JF_row fJ (q := 224) (by decide)]
      refine ⟨by omega, fun z => absurd z2 z, fun _ => ⟨by omega, ?_⟩⟩
      have hL1 := wL_eq (JF_CA (b := b) (n := n) (O := O) (lo := h) (hi := hi) fJ c6 M20 c4) (fun l h' e' B _ _ q => wE_eq (Nat.le_refl _) (Nat.le_refl _) (JF_CA (b := b) (n := n) (O := O) fJ c6 M20 c4) q) y9
      refine Tot.imp (Tot.mono (by omega) (s_254 (lo := h) (hi := hi) ih h6 fI (JE_jf hV fJ hev (Nat.le_refl _)) hev hE hτ hok hfo hL1 h12 hP hO h2)) ?_
      rintro v g ⟨rfl, gJ, g64, R3, M3, gI, j1, j2⟩
      exact ⟨rfl, rfl, JF_tr fJ gJ (fun _ w => w) g1 g2 (Nat.le_refl _) (Nat.le_refl _), g64.trans f64, R3, M3, gI, by omega, by omega⟩
  | succ p ihp =>
    intro lo hi e A a1 h12 hw h1
    obtain ⟨q0, a, A0, q1, q2, q3, q4, q5, q6⟩ := hw
    have hrec := ihp lo e a A0 (s.2.1 227 e) (by omega) q3 q1
    rw [show d + 6 + 2 * (p + 1) = (d + 7 + 2 * p) + 1 by omega]
    refine t_253 ?_
    unfold w_253_0 w_253_9
    rw [show a1.toInt.toNat = e by omega]
    refine ⟨fun _ => rf, fun _ => ⟨by omega, fun hn1 => ⟨by omega, fun hn4 => ⟨by omega, fun z => ?_, fun hn2 => ⟨by omega, ?_⟩⟩, fun h4 => ?_⟩, fun _ => rf⟩⟩
    · rcases q4 with ⟨w, -⟩ | ⟨w, -⟩ | ⟨w, -⟩ <;> omega
    · refine Tot.imp (Tot.mono (by omega) hrec) ?_
      rintro v f ⟨rfl, fJ, f64, R2, M2, fI, g1, g2⟩
      refine ⟨rfl, ?_⟩
      unfold w_253_34 w_253_47 w_253_60
      rw [show a1.toInt.toNat = e by omega, JF_row fJ (q := 221) (by decide), JF_row fJ (q := 229) (by decide)]
      refine ⟨by omega, fun _ => ⟨by omega, fun _ => ⟨rfl, fJ, f64, R2, M2, fI, g1, g2⟩, fun z => absurd z hn2⟩, fun hn3 => ⟨by omega, ?_⟩⟩
      obtain ⟨y, y1, y2, y3, y4, -⟩ : ∃ y : Nat, (s.2.1 229 e).toInt = (y : Int) ∧ e < y ∧ y < hi ∧ wT G b (scX G fo) S s y A ∧ 4002 * (b : Int) ≤ (s.2.1 223 e).toInt ∧ (s.2.1 223 e).toInt < 4002 * (b : Int) + n := by
        rcases q4 with ⟨w, -⟩ | ⟨-, w⟩ | ⟨w, -⟩
        · exact absurd w hn3
        · exact w
        · exact absurd w hn4
      have fV := JE_jf hV fJ hev (Nat.le_refl _)
      refine Tot.imp (Tot.mono (by omega) (s_252 (d := d) (E := E) fI.2.1 fJ.2.2.2.1 fJ.2.2.2.2 fI.2.2.1 c4 (by omega) (wT_eq (lo := y) (hi := y + 1) (JF_CA (b := b) (n := n) (O := O) fJ c6 M20 c4) (Nat.le_refl _) (Nat.le_refl _) (by omega) y4) fV.1 (okW _ _ y4) (by omega) y1 h2)) ?_
      rintro v g ⟨rfl, gJ, g64, R3, M3, gW, j1, j2⟩
      have gJ' : JF jK R M P E s g := JF_tr fJ gJ (fun _ w => w) g1 g2 (Nat.le_refl _) (Nat.le_refl _)
      refine ⟨rfl, ?_⟩
      rw [JF_row gJ' (q := 221) (by decide)]
      exact ⟨by omega, fun _ => ⟨rfl, gJ', g64.trans f64, R3, M3, ⟨JF_CK c1 gJ' (by decide) M20 c4, gW, by rw [g64.trans f64]; exact c3, c4, c5, c6⟩, by omega, by omega⟩, fun z => absurd z hn2⟩
    · have hM : wM G H b n (scX G fo) S O s (wE G H b n (scX G fo) (tVX G fo) S O s m) hi e A0 A := by
        rcases q4 with ⟨w, -⟩ | ⟨w, -⟩ | ⟨-, w⟩
        · omega
        · omega
        · exact w
      refine Tot.imp (Tot.mono (by omega) (s_255 (d := d + 2 + 2 * p) (AEH_mo (by omega) ih) hI hV hev hE hτ hok hfo (wEp_ok q3).1 (wEp_ok q3).2 hM q0 h12 hP hO h1 h2 (Tot.mono (by omega) hrec))) ?_
      rintro v f hf
      exact ⟨hf.1, rfl, hf.2⟩
theorem AEH_all : ∀ m, AEH own b n N T F H S0 G S O m (6 + 46 * m)
  | 0 => by
    intro s a1 a2 fo lo hi e ev b0 b1 R M P E As Bs A _ _ _ _ _ _ _ hw
    exact absurd hw id
  | m + 1 => by
    intro s a1 a2 fo lo hi e ev b0 b1 R M P E As Bs A k1 k2 k3 k4 k5 k5' k6 k7 k8 k9 k10 k11 k12
    obtain ⟨p, hp, hw⟩ := k7
    exact Tot.mono (by omega) (s_253 (AEH_all m) k1 k2 k3 k4 k5 k5' k6 k9 k10 k12 p lo hi e A a1 k8 hw k11)
end AE
