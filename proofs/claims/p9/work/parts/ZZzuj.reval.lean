/-! ===== the reference's run beside the pure machine: eval ===== -/
section ZUO
variable {K L W ar kd : Int → Int} {TN Ls : List Int} {B β0 β1 A0 A1 x t : Int} {S' : Scp} {s s' : yS} {m : Nat} {f : Int → Int → Int → Int → Prop} {evT : Int → Int × List Int} {cd : Int → List Ins}
/-- the nodes of an E, point by point -/
theorem ePc_ch : ∀ (k : Nat) (y a e : Int), ePc K L W ar kd TN Ls B β0 β1 S' A0 A1 s m f evT x t k y a e → a = aIt K L k (aHd K L t) ∧ ∃ nd yy : Nat → Int, (nd k = e ∧ yy k = y ∧ nd 0 = x) ∧ (eHd K L B s m f x (yy 0) t ∧ cHd K L W ar TN β0 β1 S' A0 A1 s x t) ∧ ∀ i, i < k → K (aIt K L i (aHd K L t)) = 46 ∧ ePt K L B s m f (nd i) (nd (i + 1)) (yy (i + 1)) (aIt K L i (aHd K L t)) ∧ cPt K L W ar TN Ls β0 β1 S' A0 A1 s (nd (i + 1)) (yy (i + 1)) (aIt K L i (aHd K L t)) ((exS K L W ar kd TN Ls S' evT i (aHd K L t) (exH K L W ar kd TN Ls S' evT t)).2.headD 0)
  | 0, y, a, e, h => by
    obtain ⟨⟨h1, h2, h3⟩, h4⟩ := h
    exact ⟨h3, fun _ => x, fun _ => y, ⟨h1.symm, rfl, rfl⟩, ⟨h2, h4⟩, fun i hi => by omega⟩
  | k + 1, y, a, e, h => by
    obtain ⟨y0, a0, e0, h1, h2, h3, h4, h5, h6⟩ := h
    obtain ⟨ea, nd, yy, ⟨g1, g2, g3⟩, g4, g5⟩ := ePc_ch k y0 a0 e0 h1
    refine ⟨by rw [h5, ea]; rfl, fun i => if i ≤ k then nd i else e, fun i => if i ≤ k then yy i else y, ⟨if_neg (by omega), if_neg (by omega), ?_⟩, ⟨?_, g4.2⟩, fun i hi => ?_⟩
    · show (if 0 ≤ k then nd 0 else e) = x
      rw [if_pos (Nat.zero_le _)]
      exact g3
    · show eHd K L B s m f x (if 0 ≤ k then yy 0 else y) t
      rw [if_pos (Nat.zero_le _)]
      exact g4.1
    · show K (aIt K L i (aHd K L t)) = 46 ∧ ePt K L B s m f (if i ≤ k then nd i else e) (if i + 1 ≤ k then nd (i + 1) else e) (if i + 1 ≤ k then yy (i + 1) else y) (aIt K L i (aHd K L t)) ∧ cPt K L W ar TN Ls β0 β1 S' A0 A1 s (if i + 1 ≤ k then nd (i + 1) else e) (if i + 1 ≤ k then yy (i + 1) else y) (aIt K L i (aHd K L t)) _
      by_cases q : i + 1 ≤ k
      · rw [if_pos (by omega), if_pos q, if_pos q]
        exact g5 i (by omega)
      · have ei : i = k := by omega
        rw [if_pos (by omega), if_neg q, if_neg q, ei, g1, ← ea]
        exact ⟨h2, h4, h6⟩
/-- code behind i points -/
theorem ciS_sp {k : Nat} {a : Int} {r : Int × List Int} (h46 : ∀ j, j < k → K (aIt K L j a) = 46) (h0 : ∀ j, j < k → (exS K L W ar kd TN Ls S' evT j a r).1 = 0) : ∀ (d i : Nat), i + d = k → ∃ R, ciS K L W ar kd TN Ls S' evT cd k a r = ciS K L W ar kd TN Ls S' evT cd i a r ++ R
  | 0, i, h => by
    have : i = k := by omega
    rw [this]
    exact ⟨[], by rw [List.append_nil]⟩
  | d + 1, i, h => by
    obtain ⟨R, hR⟩ := ciS_sp h46 h0 d (i + 1) (by omega)
    rw [ciS_snoc i a r (fun j hj => h46 j (by omega)) (h0 i (by omega)), List.append_assoc] at hR
    exact ⟨_, hR⟩
theorem ciS_nx {k i : Nat} {a : Int} {r : Int × List Int} {R : List Ins} (h46 : ∀ j, j < k → K (aIt K L j a) = 46) (h0 : ∀ j, j < k → (exS K L W ar kd TN Ls S' evT j a r).1 = 0) (hi : i < k) (h : ciS K L W ar kd TN Ls S' evT cd k a r = ciS K L W ar kd TN Ls S' evT cd i a r ++ R) : ∃ R', R = ciO K L W ar TN Ls S' cd (aIt K L i a) (exS K L W ar kd TN Ls S' evT i a r).2 ++ R' ∧ ciS K L W ar kd TN Ls S' evT cd k a r = ciS K L W ar kd TN Ls S' evT cd (i + 1) a r ++ R' := by
  obtain ⟨R', hR'⟩ := ciS_sp (cd := cd) h46 h0 (k - (i + 1)) (i + 1) (by omega)
  refine ⟨R', ?_, hR'⟩
  rw [ciS_snoc i a r (fun j hj => h46 j (by omega)) (h0 i hi), List.append_assoc, h] at hR'
  exact List.append_cancel_left hR'
theorem CFq_rx {ks : List Nat} {E1 pl Vn vt : Nat} {p q : Int} (h : RX ks E1 pl Vn vt s s') (hv : 13000 ≤ vt ∧ vt ≤ 20000) (hA : A1 ≤ 13000) : CFq p q A0 A1 s s' := ⟨fun q j q1 q2 _ _ => by rw [RX_lo h (by omega)], fun j _ j2 => RX_ty h (by omega) hv.2⟩
end ZUO
section ZUP
variable {ar : Int → Int} {fc : Int → Int → Option (Nat × List Ins)} {mv : List Int → List Int → Int} {nT : Int} {G : PG} {X : PMs} {C C' : List Ins} {st : List Itm} {bs : Nat} {Ev : Env} {frs : List Frm} {vs : Vls} {l fa q Bf : Int} {s s' : yS}
/-- an end -/
theorem SmQ_C {r : Int32} (hr : ¬ r.toInt = 0) (h : SmQ ar fc mv nT G X C st bs Ev frs vs l fa q Bf s (some (.int r)) s') : SmQ ar fc mv nT G X C' st bs Ev frs vs l fa q Bf s (some (.int r)) s' := by
  obtain ⟨r', vs', cl', N, h1, h2, h3, h4, h5⟩ := h
  have e : r = r' := by
    have := Option.some.inj h1
    injection this
  subst e
  refine ⟨r, vs', cl', N, rfl, h2, h3, h4, ?_⟩
  rcases h5 with ⟨w, -⟩ | h5
  · exact absurd w hr
  · exact Or.inr h5
end ZUP
section ZUQ
variable {K L W ar kd : Int → Int} {TN Ls : List Int} {nI A0 A1 : Int} {own : Nat → Nat × Nat} {b n W' N T F H S0 : Nat} {G : PG} {S O E pl c Vn vt Lc : Nat} {s : yS} {fo : Option Nat} {S' : Scp} {β0 β1 fa lo' hi' t : Int} {fr ev b0 b1 m hi m' : Nat} {As Bs : List (List Nat)} {Ev : Env} {st : List Itm} {bs : Nat} {frs : List Frm} {vs : Vls} {C : List Ins} {nd yy : Nat → Int} {X : PMs}
set_option maxHeartbeats 4000000 in
/-- the points behind the base -/
theorem m39 {d e k kk i a : Nat} {A A' : List Nat} {a1 a2 a3 a4 a5 : Int32} {u0 : yS} {R : List Ins} (hPR : PRm K L W ar kd nI lo' hi' TN Ls) (hFO : FOk K L W ar kd TN Ls nI) (hA1 : A1 ≤ 13000) (ih : REH own b n W' N T F H S0 G S O c m d) (ih2 : REH own b n W' N T F H S0 G S O (c + 1) 11 d) (ihS : RSm K L W ar kd TN Ls nI A0 A1 own b n W' N T F H S0 G S O c m d) (ihS2 : RSm K L W ar kd TN Ls nI A0 A1 own b n W' N T F H S0 G S O (c + 1) 11 d) (hd : 4 ≤ d) (hR : RTm own b n W' N T F H S0 G S O E pl c Vn vt Lc s) (hX : RCx G fo E pl Vn vt fr ev b0 As b1 Bs s) (hfo : ∀ f, fo = some f → f < F) (hhi : hi ≤ N) (hN : N ≤ 12006) (hpl : pl + 7 * (m + 1) + 80 * (40 - c) ≤ 4000) (hE : E ≤ c + 1) (he : e < hi) (h1 : a1.toInt = (e : Int)) (h2 : a2.toInt = (fr : Int)) (h3 : a3.toInt = (ev : Int)) (h4 : a4.toInt = (a : Int)) (hu : upC G H b n (scX G fo) S O s (wE G H b n (scX G fo) (tVX G fo) S O s m) hi e A kk a A') (hok : okE G (scX G fo) A') (hQ : EvQ own b n W' N T F H S0 G S O E pl c Vn vt Lc (envS b0 As b1 Bs) A' s (some (.int a5)) u0)
    (hSC : SCx K L W ar kd TN Ls nI A0 A1 b G S' β0 β1 b0 b1 As Bs Ev st bs fr pl frs vs c Vn s) (hm' : m' ≤ 9) (ht0 : 0 ≤ aHd K L t) (hch : ∀ i, i < k → K (aIt K L i (aHd K L t)) = 46 ∧ ePt K L (4002 * (b : Int)) s m' (eC K L W ar kd TN Ls (4002 * (b : Int)) β0 β1 S' A0 A1 s m') (nd i) (nd (i + 1)) (yy (i + 1)) (aIt K L i (aHd K L t)) ∧ cPt K L W ar TN Ls β0 β1 S' A0 A1 s (nd (i + 1)) (yy (i + 1)) (aIt K L i (aHd K L t)) ((exS K L W ar kd TN Ls S' (exE6 K L W ar kd TN Ls S' m') i (aHd K L t) (exH K L W ar kd TN Ls S' (exE6 K L W ar kd TN Ls S' m') t)).2.headD 0)) (hPO : ∀ j, j < k → POk K L m' (aIt K L j (aHd K L t))) (hx0 : ∀ j, j ≤ k → (exS K L W ar kd TN Ls S' (exE6 K L W ar kd TN Ls S' m') j (aHd K L t) (exH K L W ar kd TN Ls S' (exE6 K L W ar kd TN Ls S' m') t)).1 = 0) (hnI : aIt K L k (aHd K L t) ≤ nI) (h228 : ∀ j, j < k → (s.2.1 228 (nd j).toNat).toInt = nd (j + 1)) (hik : i + kk = k) (hai : (a : Int) = nd i) (hRe : ciS K L W ar kd TN Ls S' (exE6 K L W ar kd TN Ls S' m') (ciE K L W ar kd TN Ls S' m') k (aHd K L t) (exH K L W ar kd TN Ls S' (exE6 K L W ar kd TN Ls S' m') t) = ciS K L W ar kd TN Ls S' (exE6 K L W ar kd TN Ls S' m') (ciE K L W ar kd TN Ls S' m') i (aHd K L t) (exH K L W ar kd TN Ls S' (exE6 K L W ar kd TN Ls S' m') t) ++ R) (hS : SmQ ar (fcD K L W ar kd TN Ls) (mvC K L W ar kd TN Ls) (TN.length : Int) G X (R ++ C) st bs Ev frs vs (lft s) fa 1 (8 * (m' : Int) + 8 + 100 * (41 - (c : Int))) s (some (.int a5)) u0) (hh : st.length + 8 * (m' + 1) ≤ 88 * (c + 1)) : wl_240_39 (Tot (d + 2)) a1 a2 a3 a4 a5 u0 (SmQ ar (fcD K L W ar kd TN Ls) (mvC K L W ar kd TN Ls) (TN.length : Int) G X C st bs Ev frs vs (lft s) fa 1 (8 * (m' : Int) + 8 + 100 * (41 - (c : Int))) s) := by
  have hv := RT_vt hR
  have h13 := hR.2.2.2.2.2.2.2.2.2.2.2.2.2.2.1
  have h82 := hR.2.2.2.2.2.2.2.2.2.2.2.2.2.2.2.2.2.1
  have hc40 := hR.2.2.2.2.2.2.2.2.2.2.2.2.2.2.2.2.2.2
  have r17 := hR.2.2.2.2.2.2.2.2.2.2.2.2.2.2.2.2.1
  obtain ⟨ha, h24⟩ := PR_ar hPR
  obtain ⟨-, ⟨⟨hEv, hRl⟩, ⟨hE1, hE2⟩, s16, s26⟩, -, -, -⟩ := id hSC
  obtain ⟨evT, hevT⟩ : ∃ evT, evT = exE6 K L W ar kd TN Ls S' m' := ⟨_, rfl⟩
  obtain ⟨cd, hcd⟩ : ∃ cd, cd = ciE K L W ar kd TN Ls S' m' := ⟨_, rfl⟩
  obtain ⟨r0, hr0⟩ : ∃ r0, r0 = exH K L W ar kd TN Ls S' evT t := ⟨_, rfl⟩
  obtain ⟨ah, hah⟩ : ∃ ah, ah = aHd K L t := ⟨_, rfl⟩
  rw [← hevT, ← hr0, ← hah, ← hcd] at hRe
  rw [← hevT, ← hr0, ← hah] at hx0
  simp only [← hevT, ← hr0, ← hah] at hch
  rw [← hah] at hPO hnI ht0
  have h46 : ∀ j, j < k → K (aIt K L j ah) = 46 := fun j hj => (hch j hj).1
  have mo := aIt_lt (by omega) hPO
  refine ⟨fun z1 z2 z3 z4 z5 u => z1 = a1 ∧ z2 = a2 ∧ z3 = a3 ∧ ∃ (kk i a : Nat) (A' : List Nat) (R : List Ins), z4.toInt = (a : Int) ∧ upC G H b n (scX G fo) S O s (wE G H b n (scX G fo) (tVX G fo) S O s m) hi e A kk a A' ∧ okE G (scX G fo) A' ∧ EvQ own b n W' N T F H S0 G S O E pl c Vn vt Lc (envS b0 As b1 Bs) A' s (some (.int z5)) u ∧ i + kk = k ∧ (a : Int) = nd i ∧ ciS K L W ar kd TN Ls S' evT cd k ah r0 = ciS K L W ar kd TN Ls S' evT cd i ah r0 ++ R ∧ SmQ ar (fcD K L W ar kd TN Ls) (mvC K L W ar kd TN Ls) (TN.length : Int) G X (R ++ C) st bs Ev frs vs (lft s) fa 1 (8 * (m' : Int) + 8 + 100 * (41 - (c : Int))) s (some (.int z5)) u, fun _ _ _ z4 _ _ => (20000 - z4.toInt).toNat, ⟨rfl, rfl, rfl, kk, i, a, A', R, h4, hu, hok, hQ, hik, hai, hRe, hS⟩, ?_⟩
  clear hQ hok hu h4 hik hai hRe hS
  rintro z1 z2 z3 z4 z5 u ⟨e1, e2, e3, kk, i, a, A', R, h4, hu, hok, hQ, hik, hai, hRe, hS⟩
  have e1 := e1.symm
  have e2 := e2.symm
  have e3 := e3.symm
  subst e1 e2 e3
  obtain ⟨r, er, g0, uX, Vn', vt', L', uR, g1, g2, g3, g4⟩ := hQ
  have er' : z5 = r := by
    have := Option.some.inj er
    injection this
  subst er'
  clear er
  have hv' := RT_vt uR
  unfold w_240_39 w_240_77
  refine ⟨fun hend => ?_, fun hmore => ⟨fun hne => SmQ_C hne hS, fun h0 => ?_⟩⟩
  · have ek : kk = 0 := by
      cases kk with
      | zero => rfl
      | succ kk =>
        have := hu.1
        omega
    have ei : i = k := by omega
    rw [ei] at hRe
    have eR : R = [] := by
      have := congrArg List.length hRe
      rw [List.length_append] at this
      exact List.eq_nil_of_length_eq_zero (by omega)
    rw [eR] at hS
    exact hS
  · cases kk with
    | zero =>
      have := hu.1
      omega
    | succ kk =>
      obtain ⟨u1, e1, hi1, A1', u2, u3, u4, u5, u6, u7, u8, u9⟩ := hu
      obtain ⟨w0, w1, w2, w3⟩ := g4 h0
      have hik' : i < k := by omega
      have c228 : u.2.1 228 a = s.2.1 228 a := by rw [RX_row uX (by decide)]
      have c221 : u.2.1 221 e1 = s.2.1 221 e1 := by rw [RX_row uX (by decide)]
      have hnd : (e1 : Int) = nd (i + 1) := by
        have := h228 i hik'
        rw [← hai, Int.toNat_natCast, u2] at this
        exact this
      rw [show z4.toInt.toNat = a by omega, c228, show (s.2.1 228 a).toInt.toNat = e1 by omega, c221]
      have uC : RCx G fo E pl Vn' vt' fr ev b0 As b1 Bs u := RCx_rx hX uX r17 (by omega) (Nat.le_refl _) (Nat.le_refl _) g1 g2
      have uP : wP G H b n (scX G fo) S O u (wE G H b n (scX G fo) (tVX G fo) S O u m) hi1 e1 A' A1' := wP_eq (RX_CA (b := b) (n := n) (S := S) (O := O) uX (by omega) (by omega)) (Nat.le_refl _) (Nat.le_refl _) u5 (fun l h e' B _ _ q => wE_eq (Nat.le_refl _) (Nat.le_refl _) (RX_CA (b := b) (n := n) (S := S) (O := O) uX (by omega) (by omega)) q) u7
      -- by tokens
      obtain ⟨at', hat⟩ : ∃ at', at' = aIt K L i ah := ⟨_, rfl⟩
      obtain ⟨ri, hri⟩ : ∃ ri, ri = exS K L W ar kd TN Ls S' evT i ah r0 := ⟨_, rfl⟩
      obtain ⟨k46, kP, kC⟩ := hch i hik'
      rw [← hat] at k46 kP kC
      rw [← hri] at kC
      rw [← hai, ← hnd] at kP
      rw [← hnd] at kC
      have kP' := ePt_c (g := eC K L W ar kd TN Ls (4002 * (b : Int)) β0 β1 S' A0 A1 u m') (CFq_rx (A0 := A0) (p := (e1 : Int)) (q := yy (i + 1)) uX (by omega) hA1) (fun x' y' t e' _ _ q => eC_rx uX (by omega) hA1 q) kP
      have kC' := cPt_c (CFq_rx (A0 := A0) (p := (e1 : Int)) (q := yy (i + 1)) uX (by omega) hA1) (Int.le_refl _) kP kC
      obtain ⟨R', hR1, hR2⟩ := ciS_nx h46 (fun j hj => hx0 j (by omega)) hik' hRe
      rw [← hat, ← hri] at hR1
      have hPOi := hPO i hik'
      rw [← hat] at hPOi
      have eSn : exS K L W ar kd TN Ls S' evT (i + 1) ah r0 = exO K L W ar kd TN Ls S' evT at' ri.2 := by
        rw [exS_snoc i ah r0 (fun j hj => h46 j (by omega)), if_pos (hx0 i (by omega)), ← hri, ← hat]
      have hxO : (exO K L W ar kd TN Ls S' evT at' ri.2).1 = 0 := by
        rw [← eSn]
        exact hx0 (i + 1) (by omega)
      have hcK := ciO_k (cd := cd) hPR s16 s26 (by omega) hPOi hxO (fun t p q => by rw [hcd]; exact ciE_k hPR s16 s26 m' (by omega) t p (by rw [← hevT]; exact q))
      have ha0 : 0 ≤ at' := by
        have := mo 0 i (Nat.zero_le _) (by omega)
        rw [← hat] at this
        have e0 : aIt K L 0 ah = ah := rfl
        omega
      have han : aPt K L at' ≤ nI := by
        have := mo (i + 1) k (by omega) (Nat.le_refl _)
        have e0 : aIt K L (i + 1) ah = aPt K L at' := by rw [hat]; rfl
        omega
      obtain ⟨po1, -, -, -⟩ := POk_o (by omega) hPOi
      obtain ⟨r', vs', cl', N1, p0, ⟨⟨ws, p1⟩, p2, p3⟩, ⟨p4, p5, p6, p7⟩, p8, p9⟩ := hS
      have er' : z5 = r' := by
        have := Option.some.inj p0
        injection this
      subst er'
      obtain ⟨w, y2, y3, y4, y5⟩ : ∃ w : Nat, (u.1 102).toInt = (w : Int) ∧ w < vs'.length ∧ (N1 : Int) ≤ 10 * (lft s - lft u) + 1 ∧ PSn ar (fcD K L W ar kd TN Ls) (mvC K L W ar kd TN Ls) N1 X (5, R ++ C, st ++ [.inr w], bs, Ev, frs, vs', lft u, cl', fa) := by
        rcases p9 with ⟨-, h⟩ | ⟨h, -⟩
        · exact h
        · exact absurd h0 h
      have ew : w = w0 := by omega
      subst ew
      have u98 : (u.1 98).toInt = (Vn' : Int) := uR.2.2.2.2.2.2.1
      have hvn : vs'.length = Vn' := by omega
      rw [hR1, List.append_assoc] at y5
      have uSC : SCx K L W ar kd TN Ls nI A0 A1 b G S' β0 β1 b0 b1 As Bs Ev st bs fr pl frs vs' c Vn' u := by
        have := SCx_rx (st' := []) uX (by omega) hA1 (by decide) (Nat.le_refl _) (Nat.le_refl _) p2 hvn p4 hSC
        rw [List.append_nil] at this
        exact this
      have nxt : ∀ (x : Int32) (s1 : yS) (B0 : Int), B0 ≤ 8 * (m' : Int) + 6 + 100 * (41 - (c : Int)) → EvQ own b n W' N T F H S0 G S O E pl c Vn' vt' L' (envS b0 As b1 Bs) A1' u (some (.int x)) s1 → SmQ ar (fcD K L W ar kd TN Ls) (mvC K L W ar kd TN Ls) (TN.length : Int) G (5, ciO K L W ar TN Ls S' cd at' ri.2 ++ (R' ++ C), st ++ [.inr w], bs, Ev, frs, vs', lft u, cl', fa) (R' ++ C) st bs Ev frs vs' (lft u) fa 0 B0 u (some (.int x)) s1 → w_240_75 (Tot (d + 2)) (fun z1' z2' z3' z4' z5' u' => (z1' = a1 ∧ z2' = a2 ∧ z3' = a3 ∧ ∃ (kk i a : Nat) (A' : List Nat) (R : List Ins), z4'.toInt = (a : Int) ∧ upC G H b n (scX G fo) S O s (wE G H b n (scX G fo) (tVX G fo) S O s m) hi e A kk a A' ∧ okE G (scX G fo) A' ∧ EvQ own b n W' N T F H S0 G S O E pl c Vn vt Lc (envS b0 As b1 Bs) A' s (some (.int z5')) u' ∧ i + kk = k ∧ (a : Int) = nd i ∧ ciS K L W ar kd TN Ls S' evT cd k ah r0 = ciS K L W ar kd TN Ls S' evT cd i ah r0 ++ R ∧ SmQ ar (fcD K L W ar kd TN Ls) (mvC K L W ar kd TN Ls) (TN.length : Int) G X (R ++ C) st bs Ev frs vs (lft s) fa 1 (8 * (m' : Int) + 8 + 100 * (41 - (c : Int))) s (some (.int z5')) u') ∧ (20000 - z4'.toInt).toNat < (20000 - z4.toInt).toNat) a1 a2 a3 (s.2.1 228 a) z5 x s1 (SmQ ar (fcD K L W ar kd TN Ls) (mvC K L W ar kd TN Ls) (TN.length : Int) G X C st bs Ev frs vs (lft s) fa 1 (8 * (m' : Int) + 8 + 100 * (41 - (c : Int))) s) := by
        intro x s1 B0 hB0 hq hsm
        unfold w_240_75
        refine ⟨⟨rfl, rfl, rfl, kk, i + 1, e1, A1', R', u2, u9, u8, EvQ_tr uX g1 g2 g3 hq, by omega, hnd, hR2, ?_⟩, by omega⟩
        exact SmQ_mo (q := 0 + 1) (Bf := B0 + 1) (by omega) (by omega) (SmQ_pre (s1 := u) (l1 := lft u) y5 y4 p5 ⟨ws, p1⟩ (p8 (by omega)) p7 hsm)
      obtain ⟨kp1, kp2, kp3, kp4⟩ := id kP'
      rw [Int.toNat_natCast] at kp3
      have hst1 : st.length + 1 ≤ 3900 := by omega
      refine ⟨by omega, by omega, fun h3' => ⟨by omega, fun h4' => ?_, fun h4' => ?_⟩, fun h3' => ?_⟩
      · have h5 : (u.2.1 221 e1).toInt = 5 := by
          rcases uP with ⟨q, -⟩ | ⟨q, -⟩ | ⟨q, -⟩
          · rw [c221] at q; exact absurd q h3'
          · exact q
          · rw [c221] at q; exact absurd q h4'
        have q40 : K (at' + 1) = 40 := by
          by_cases w : K (at' + 1) = 40
          · exact w
          · rw [if_neg w, Int.toNat_natCast] at kp4
            obtain ⟨-, kp4⟩ := kp4
            by_cases w91 : K (at' + 2) = 91
            · rw [if_pos w91] at kp4
              have := kp4.1
              omega
            · rw [if_neg w91] at kp4
              by_cases w2 : K (at' + 2) = 40
              · rw [if_pos w2] at kp4
                have := kp4.1
                omega
              · rw [if_neg w2] at kp4
                have := kp4.1
                omega
        rw [if_pos q40, Int.toNat_natCast] at kp4
        have eO : ciO K L W ar TN Ls S' cd at' ri.2 = [(6, wdC K L W ar TN S'.1 S'.2.1 (at' + 2), L at', [], 0)] := by
          unfold ciO
          rw [if_pos q40]
        unfold cPt at kC'
        rw [if_pos q40] at kC'
        have hD := (hcK _ (by rw [eO]; exact List.mem_cons_self)).1 (Or.inr rfl)
        rw [← hE1, ← hE2] at hD
        refine Tot.imp (Tot.mono (by omega) (Tot_and (s_243 (d := 0) uR (by omega) uC h5 uP (by omega) u2 h3 w1 w2) (m_243 (d := 0) (fc := fcD K L W ar kd TN Ls) (C := R' ++ C) (fa := fa) (st := st) (bs := bs) (frs := frs) (cl := cl') ha h24 uSC.1.1 uR (by omega) uC h5 uP (by omega) u2 h3 w1 w2 kC' kp4.2.1 kp3 (by omega) hD hEv hRl p2 hvn p6 hst1 p4))) ?_
        rintro v s1 ⟨hq, hsm⟩
        obtain ⟨x, rfl, -⟩ := id hq
        refine ⟨x, rfl, nxt x s1 1 (by omega) hq ?_⟩
        rw [eO]
        exact hsm
      · have q40 : ¬ K (at' + 1) = 40 := fun w => by
          rw [if_pos w, Int.toNat_natCast] at kp4
          have := kp4.1
          rw [c221] at this
          omega
        have qm : K (at' + 2) = 91 ∨ K (at' + 2) = 40 := by
          rw [if_neg q40, Int.toNat_natCast] at kp4
          obtain ⟨-, kp4⟩ := kp4
          by_cases w91 : K (at' + 2) = 91
          · exact Or.inl w91
          · rw [if_neg w91] at kp4
            by_cases w2 : K (at' + 2) = 40
            · exact Or.inr w2
            · rw [if_neg w2] at kp4
              have := kp4.1
              rw [c221] at this
              omega
        unfold cPt at kC'
        rw [if_neg q40, if_pos qm] at kC'
        refine Tot.imp (Tot_and (s_244 ih ih2 hd uR uC hfo (by rw [c221]; exact h4') hok uP u5 (by omega) hN hpl hE u2 h2 h3 w1 w2 w3) (m_244 (C := R' ++ C) (fa := fa) hPR hFO hA1 ih ih2 ihS ihS2 hd uR uC hfo (by rw [c221]; exact h4') hok uP u5 (by omega) hN hpl hE u2 h2 h3 w1 w2 w3 uSC hm' q40 qm kP' kC' hPOi (by rw [← hevT]; exact hxO) ha0 han hh)) ?_
        rintro v s1 ⟨hq, hsm⟩
        obtain ⟨x, rfl, -⟩ := id hq
        refine ⟨x, rfl, nxt x s1 (8 * (m' : Int) + 6 + 100 * (41 - (c : Int))) (Int.le_refl _) hq ?_⟩
        rw [p6, ← hcd] at hsm
        exact hsm
      · have q40 : ¬ K (at' + 1) = 40 := fun w => by
          rw [if_pos w, Int.toNat_natCast] at kp4
          have := kp4.1
          rw [c221] at this
          omega
        have qm : ¬ (K (at' + 2) = 91 ∨ K (at' + 2) = 40) := fun w => by
          rw [if_neg q40, Int.toNat_natCast] at kp4
          obtain ⟨-, kp4⟩ := kp4
          by_cases w91 : K (at' + 2) = 91
          · rw [if_pos w91] at kp4
            have := kp4.1
            rw [c221] at this
            omega
          · rw [if_neg w91, if_pos (w.resolve_left w91)] at kp4
            have := kp4.1
            rw [c221] at this
            omega
        have eO : ciO K L W ar TN Ls S' cd at' ri.2 = [(4, [], fIx (wEq W (at' + 1)) 0 (fNm K L Ls (ri.2.headD 0)), [], 0)] := by
          unfold ciO
          rw [if_neg q40, if_neg qm]
        unfold cPt at kC'
        rw [if_neg q40, if_neg qm, Int.toNat_natCast] at kC'
        refine Tot.imp (Tot.mono (by omega) (Tot_and (s_242 (d := 0) uR uC.2.2.1 hok (by rw [c221]; exact h3') uP (by omega) u2 w1 w2 w3) (m_242 (d := 0) (AV := []) (AW := []) (ps := []) (C := R' ++ C) (fa := fa) (st := st) (bs := bs) (Ev := Ev) (frs := frs) (cl := cl') (fc := fcD K L W ar kd TN Ls) (mv := mvC K L W ar kd TN Ls) ha uR uC.2.2.1 hok (by rw [c221]; exact h3') uP (by omega) u2 w1 w2 w3 kC' p2 hvn p6 hst1 p4))) ?_
        rintro v s1 ⟨hq, hsm⟩
        obtain ⟨x, rfl, -⟩ := id hq
        refine ⟨x, rfl, nxt x s1 1 (by omega) hq ?_⟩
        rw [eO]
        exact hsm
end ZUQ
