/-! ===== addMethod ===== -/
section AM4
variable {own : Nat → Nat × Nat} {b n N T F H S0 : Nat} {G : PG} {S O R M P E : Nat} {s : yS}
theorem s_255 {d e m hi ev b0 b1 : Nat} {As Bs : List (List Nat)} {A0 A : List Nat} {fo : Option Nat} {a1 a2 : Int32} (ih : AEH own b n N T F H S0 G S O m d) (hI : IWm own b n N T F H S0 G S R M P s) (hV : JE s ev P b0 As b1 Bs) (hev : ev < E) (hE : E ≤ 280) (hτ : wEnv G (scX G fo) (envS b0 As b1 Bs)) (hok : ∀ c A, envS b0 As b1 Bs c = some A → okL G 1 A) (hfo : ∀ f, fo = some f → f < F) (hA0 : okE G (scX G fo) A0) (h60 : A0.length ≤ 60) (hM : wM G H b n (scX G fo) S O s (wE G H b n (scX G fo) (tVX G fo) S O s m) hi e A0 A) (he : e < hi) (h12 : hi ≤ 12006) (hP : P + 600 ≤ 199000) (hO : O ≤ 120000) (h1 : a1.toInt = (e : Int)) (h2 : a2.toInt = (ev : Int)) (hrec : Tot (d + 4) 253 [.ref 213, .int (s.2.1 227 e), .int a2] s (AEP own b n N T F H S0 G S R M P E s)) : Tot (d + 5) 255 [.ref 213, .int a1, .int a2] s (AEP own b n N T F H S0 G S R M P E s) := by
  obtain ⟨c1, c2, c3, c4, c5, c6⟩ := id hI
  obtain ⟨M92, M20⟩ := RW_M c2
  have hW := c1.2.2.2.2.2.2.2.2.1
  have hg : gT G ≤ 24 := hW.1.1
  have gF' : gF G = F := by rw [← c1.2.2.2.2.2.2.2.1]; exact (pgA c1.1).2.1
  have hsc := scX_ok hW gF' hfo
  have hn := c1.1.2.1
  have hb2 := c1.1.1
  obtain ⟨Mt, x, Ms, h, cd, Zs, t, q, hm, k1, k2, k3, k4, k5, k6, k7, k8, k9, k10, k11, k12, k13, k14, k15, k16, k17, k18, k19, k20⟩ := hM
  have hh := hW.2.2.1 h k8
  obtain ⟨-, kF, kV⟩ := wEnv_ok hg hτ hA0
  have okM := mid_okE hg hsc hA0 k1
  have hRM : RM G (s.2.1 217 t).toInt (subs (envS b0 As b1 Bs) A0) (Zs.map (subs (envS b0 As b1 Bs))) := by
    intro V v Vs hVst cV hVe hi0
    obtain ⟨kf, g, f1, f2, f3, f4, f5⟩ := call_hd hW hτ hA0 k1 k2 okM k3 k7 hVst cV hi0
    obtain ⟨n1, -, -, -⟩ := call_env hW hsc hτ k2 okM k3 k7 k17 (wY_okE k16) k18 hVst cV hVe f1 f2 f3 f4 f5
    exact ⟨kf, g, f1, f2, f3, f4, by rw [List.length_map, k17]; exact f5.1, n1⟩
  refine t_255 ?_
  unfold w_255_0
  rw [show a1.toInt.toNat = e by omega]
  refine ⟨by omega, ?_⟩
  refine Tot.imp hrec ?_
  rintro v u ⟨rfl, uJ, u64, R1, M1, uI, r1, r2⟩
  refine ⟨rfl, ?_⟩
  have h64 : (u.1 64).toInt = (P : Int) := uI.2.2.1
  have M1r := RW_M uI.2.1
  refine am12 (G := G) (H := H) (sc := scX G fo) (q := q) (P := P) hg hsc hA0 h60 uJ.2.2.2.1 h64 hP h1 (by omega) (by rw [JF_row uJ (by decide)]; exact k9) (by rw [JF_row uJ (by decide)]; exact k10) (by omega) (by rw [sg_eq (s := s) (fun i _ _ => by rw [JF_row uJ (by decide)])]; exact k13) (fun w w1 w64 wc wl wT ws => ?_)
  have wG : GC w := fun i => by rw [wc 265 i (fun e => by omega)]; exact uJ.2.2.2.2 i
  have wJ : JF jK R M P E s w := JF_tr uJ (R' := R1) (M' := M1) (P' := P) (E' := E) (ks' := [64]) ⟨fun k hk => w1 k (fun e => hk (by rw [e]; decide)), fun q' i _ c _ _ => wc q' i (fun e => c ⟨e.1, Or.inr e.2.1⟩), wl, wT, wG⟩ (by decide) r1 r2 (Nat.le_refl _) (Nat.le_refl _)
  have wW : RW G R1 M1 w := RW_eq (s := u) uI.2.1 (w1 112 (by decide)) (w1 118 (by decide)) (by rw [w1 111 (by decide)]; exact uI.2.1.2.2.2.2.2.1) (fun q' i hq => wc q' i (fun e => by
    rcases hq with ⟨hq, -⟩ | hq
    · rw [e.1] at hq
      revert hq
      decide
    · omega))
  have r29 : ∀ f : yS, JF jK R M P E s f → f.2.1 229 = s.2.1 229 := fun f hf => JF_row hf (by decide)
  have go : ∀ (f : yS) (Q : Nat), JF jK R M P E s f → RW G R1 M1 f → (f.1 64).toInt = (Q : Int) → P + A0.length ≤ Q → Q ≤ P + A0.length + 60 → (¬ (f.1 111).toInt = 0 → seg f (P + A0.length) (Q - (P + A0.length)) = subs (envS b0 As b1 Bs) A0) → wl_255_67 (Tot (d + 4)) a1 a2 (u.1 64) (w.1 64) 1 (s.2.1 229 e) f (AEP own b n N T F H S0 G S R M P E s) := fun f Q j1 j2 j3 j4 j5 j6 => am67 (p4 := P + A0.length) (t := t) (fT := fun k => subs (envS cd Ms (2000 + 6 * h) Zs) (gvt G h k)) ih (by omega) j1 j2 r1 r2 j3 (by omega) (by omega) j4 j5 hI hV hev hE hτ hok hA0 hRM hfo k16 (by omega) k19 h12 k15 (by omega) hP hO h1 h2 u64 (by omega) k4 (by omega) j6
  have zero : ∀ f : yS, JF jK R M P E s f → f.1 64 = w.1 64 → (∀ v : Int32, v.toInt = 0 ∨ v.toInt = 1 → RW G R1 M1 (sf f 111 v)) → w_255_58 (Tot (d + 4)) a1 a2 (u.1 64) (w.1 64) f (AEP own b n N T F H S0 G S R M P E s) := by
    intro f fJ f64 fW
    unfold w_255_58 w_255_59
    refine ⟨Or.inl rfl, ?_⟩
    rintro s1 rfl
    have J1 : JF jK R M P E s (sf f 111 0) := JF_sf fJ (by decide)
    rw [r29 _ J1, show a1.toInt.toNat = e by omega]
    exact ⟨by omega, go (sf f 111 0) (P + A0.length) J1 (fW 0 (Or.inl rfl)) (by show (f.1 64).toInt = _; rw [f64]; omega) (Nat.le_refl _) (by omega) (fun w => absurd rfl w)⟩
  refine ⟨fun _ => zero w wJ rfl (fun v hv => RW_eq (s := w) wW rfl rfl hv (fun _ _ _ => rfl)), fun hne => ?_⟩
  have wV : JE w ev (P + A0.length) b0 As b1 Bs := JE_jf hV wJ hev (by omega)
  refine Tot.imp (Tot.mono (by omega) (s_191 (d := d) (e := ev) (P := P + A0.length) (p := P) (l := A0.length) wT wG (by omega) wV.1 (by omega) h64 (by rw [JF_row wJ (by decide)]; exact k10) h2 (Nat.le_refl _) (by omega))) ?_
  rintro v f ⟨x3, rfl, fP, fk, hr⟩
  rw [ws] at hr
  have fG : GC f := fun i => by rw [fP.1 265 i (fun e => by omega)]; exact wG i
  have fJ : JF jK R M P E s f := JF_tr wJ (R' := R1) (M' := M1) (P' := P) (E' := E) (ks' := [64, 71, 72]) ⟨fk, fun q' i _ c _ _ => fP.1 q' i (fun e => c ⟨e.1, Or.inr (by omega)⟩), fP.2.1, fP.2.2, fG⟩ (by decide) r1 r2 (Nat.le_refl _) (Nat.le_refl _)
  have fW : ∀ v : Int32, v.toInt = 0 ∨ v.toInt = 1 → RW G R1 M1 (sf f 111 v) := fun v hv => RW_eq (s := w) wW (fk 112 (by decide)) (fk 118 (by decide)) hv (fun q' i hq => fP.1 q' i (fun e => by
    rcases hq with ⟨hq, -⟩ | hq
    · rw [e.1] at hq
      revert hq
      decide
    · omega))
  refine ⟨x3, rfl, fun hx => ?_, fun hx => ?_⟩
  · rcases hr with ⟨-, g2, -⟩ | ⟨g1, -⟩
    · exact zero f fJ (by rw [g2]) fW
    · omega
  · rcases hr with ⟨g1, -⟩ | ⟨-, N1, n1, n2, n3, n4, n5, n6⟩
    · exact absurd g1 hx
    · unfold w_255_59
      refine ⟨Or.inr rfl, ?_⟩
      rintro s1 rfl
      have J1 : JF jK R M P E s (sf f 111 1) := JF_sf fJ (by decide)
      rw [r29 _ J1, show a1.toInt.toNat = e by omega]
      refine ⟨by omega, go (sf f 111 1) (P + A0.length + N1) J1 (fW 1 (Or.inr rfl)) (by show (f.1 64).toInt = _; omega) (by omega) (by omega) (fun _ => ?_)⟩
      have sg' : seg (sf f 111 1) (P + A0.length) (P + A0.length + N1 - (P + A0.length)) = subs (envS b0 As b1 Bs) A0 := by
        rw [show P + A0.length + N1 - (P + A0.length) = N1 by omega]
        refine Eq.trans (seg_2 (s := f) ?_) n6
        rfl
      exact sg'
end AM4
