/-! ===== the class: read ===== -/
/-- what read leaves beside the rows -/
def CFz (P : Nat) (s s' : zS) : Prop := (∀ a k, ¬ (a = 82 ∧ k = 3) → ¬ (a = P ∧ k = 14) → ¬ (a = P ∧ k = 11) → (∀ r ∈ rwL, ¬ (a = P + r ∧ k = 2)) → s'.1 a k = s.1 a k) ∧ ∀ a, ¬ a = P + 12 → ¬ a = P + 22 → (∀ r ∈ rwL, ¬ a = P + r) → s'.2 a = s.2 a
def CQz (K L : Int → Int) (P : Nat) (n : Int) (σ : RSt) (s s' : zS) : Prop := (s'.1 P 14).toInt = (p_pg K L σ).1 ∧ CFz P s s' ∧ ((p_pg K L σ).1 = 0 → ∃ m, RWz K L P s' m (l_al K L 4000 0 0 σ) ∧ ALz K L P s' m (l_al K L 4000 0 0 σ) ∧ m = (p_al K L 4000 0 0 σ).2 ∧ kTy K (l_al K L 4000 0 0 σ) ≤ 24 ∧ kFn K (l_al K L 4000 0 0 σ) ≤ 60 ∧ (s'.1 P 11).toInt = m + 1 ∧ LAz K L P (m + 1) (p_e K L 10 false (0, m + 1)).2 s' ∧ (p_e K L 10 false (0, m + 1)).1 = 0 ∧ (p_e K L 10 false (0, m + 1)).2 ≤ n ∧ (p_al K L 4000 0 0 σ).1 = 0)
section SRD
variable {d P : Nat} {K L : Int → Int} {n m q : Int} {s s' t : zS} {σ : RSt} {Ls : List Int} {R : List Nat} {x : Int32}
/-- expect the end -/
theorem zs_73z (hP : P = 3 ∨ P = 39) (hT : TXp K L n) (h : RDz K L P n s) : Zt (d + 9) (wd P 73) 73 [.ref 82, .int 0] s (fun v s' => v = none ∧ (s'.1 P 14).toInt = (e_k K L 0 (RS P s)).1 ∧ FZr P s s' ∧ s'.2 = s.2) := by
  refine zc_73 hP ?_
  have hL := RD_L hT h
  have hn := hT.1
  have h1 := h.2.2.1
  have h2 := h.2.2.2
  unfold v_73_0
  rw [zg_K, zg_K, h.1, h.2.1]
  by_cases h0 : (s.1 P 14).toInt = 0
  · refine ⟨fun w => absurd h0 w, fun _ => ⟨fun hc => ?_, fun hc x1 hx1 x2 hx2 s3 hs3 => ?_⟩⟩
    · unfold v_73_24
      refine ⟨fun w => absurd h0 w, fun _ x1 hx1 => ?_⟩
      have e1 := hx1 (by omega)
      refine ⟨by omega, fun s2 hs2 => ⟨rfl, ?_, ?_, ?_⟩⟩
      · rw [hs2, zf_1, if_neg (by omega), ek_y (σ := RS P s) (k := 0) h0 hc]
        exact h0
      · rw [hs2]
        exact FZr_at
      · rw [hs2, zf_2]
    · have e1 := hx1 (by omega)
      have e2 := hx2 (by omega)
      unfold v_73_24
      have ef : (s3.1 P 14).toInt = 1 + 16 * L (s.1 82 3).toInt := by
        rw [hs3, zf_1, if_pos ⟨rfl, rfl⟩]
        omega
      refine ⟨fun _ => ⟨rfl, ?_, ?_, ?_⟩, fun w => by omega⟩
      · rw [ef]
        unfold e_k
        rw [if_pos (show (RS P s).1 = 0 from h0), if_neg (show ¬ K (RS P s).2 = 0 from hc)]
        rfl
      · rw [hs3]
        exact FZr_ft
      · rw [hs3, zf_2]
  · refine ⟨fun _ => ?_, fun w => absurd w h0⟩
    unfold v_73_24
    refine ⟨fun _ => ⟨rfl, ?_, FZr_rf, rfl⟩, fun w => absurd w h0⟩
    rw [ek_f (σ := RS P s) h0]
    rfl
theorem RWz_add (hw : RWz K L P s m Ls) (hF : FZq R P s s') (hm : m = (RS P s).2) (hD : DSt K L P s s' (aSl K L 0 Ls).length (sDc K L (kHd K L Ls) q)) (h24 : zsz s' (P + 24) = 6 * (kTy K (Ls ++ [q]) : Int)) (h26 : zsz s' (P + 26) = 10 * (kFn K (Ls ++ [q]) : Int)) (h28 : zsz s' (P + 28) = 5 * (kHd K L (Ls ++ [q]) : Int)) (h32 : zsz s' (P + 32) = 3 * ((Ls ++ [q]).length : Int)) (hh : (kHd K L (Ls ++ [q]) : Int) ≤ (RS P s').2) : RWz K L P s' (RS P s').2 (Ls ++ [q]) := by
  obtain ⟨⟨z1, z2, z3, z4, z5⟩, w1, w2, w3, w4⟩ := hw
  obtain ⟨c1, c2, c3, c4, c5, c6⟩ := hD
  subst hm
  have e : aSl K L 0 (Ls ++ [q]) = aSl K L 0 Ls ++ sDc K L (kHd K L Ls) q := by rw [aSl_app, Int.zero_add]
  refine ⟨⟨h24, h26, h28, by rw [e, List.length_append, c1]; omega, h32⟩, ?_, by rw [e, List.length_append]; omega, hh, fun p hp h0 => ?_⟩
  · rw [e]
    exact SLat_app (SLat_q w1 hF (by omega)) (by rw [Nat.zero_add]; exact c2)
  · rw [e] at hp
    rcases List.mem_append.mp hp with hp | hp
    · exact GTt_mo (GTt_out (w4 p hp h0) c4 (Int.le_refl _)) (Int.le_refl _) c3
    · have := w3
      exact GTt_mo (c6 p hp h0) (by omega) (Int.le_refl _)
/-- what stands as the loop begins again -/
def CLz (K L : Int → Int) (P : Nat) (n : Int) (σ : RSt) (s : zS) (a2 : Int32) (t : zS) : Prop := RDz K L P n t ∧ FZq rwL P s t ∧ (0 ≤ a2.toInt ∧ a2.toInt ≤ 4000) ∧ (¬ (RS P t).1 = 0 → p_al K L 4000 0 0 σ = RS P t) ∧ ((RS P t).1 = 0 → ∃ Ls : List Int, a2.toInt = (Ls.length : Int) ∧ RWz K L P t (RS P t).2 Ls ∧ ALz K L P t (RS P t).2 Ls ∧ kTy K Ls ≤ 24 ∧ kFn K Ls ≤ 60 ∧ p_al K L (4000 - Ls.length) (kTy K Ls) (kFn K Ls) (RS P t) = p_al K L 4000 0 0 σ ∧ l_al K L 4000 0 0 σ = Ls ++ l_al K L (4000 - Ls.length) (kTy K Ls) (kFn K Ls) (RS P t))
theorem dec_n {a b : Nat} : decide ((b : Int) ≤ (a : Int)) = decide (b ≤ a) := by
  by_cases h : b ≤ a
  · rw [decide_eq_true h, decide_eq_true (by omega)]
  · rw [decide_eq_false h, decide_eq_false (by omega)]
theorem rw_ml : ∀ r ∈ rwL, r ∈ rwL := fun _ h => h
set_option maxHeartbeats 4000000 in
/-- main and the end -/
theorem zs_61e (hP : P = 3 ∨ P = 39) (hT : TXp K L n) (hI : CLz K L P n σ s x t) (hk : (RS P t).1 = 0 → K (RS P t).2 = 8) : v_61_46 (fun j => Zt (52 + 8) (wd P j) j) P x t (fun v s' => v = none ∧ CQz K L P n σ s s') := by
  obtain ⟨t1, t2, -, t4, t5⟩ := hI
  have hn := hT.1
  generalize hR : p_al K L 4000 0 0 σ = Rr at t4 t5
  generalize hLL : l_al K L 4000 0 0 σ = LL at t5
  have hlen : ∀ Ls : List Int, kTy K Ls ≤ 24 → kFn K Ls ≤ 60 → 4000 - Ls.length = (3999 - Ls.length) + 1 := fun Ls h1 h2 => by
    have := kTF (K := K) Ls
    omega
  have eR : Rr = RS P t := by
    by_cases hz : (RS P t).1 = 0
    · obtain ⟨Ls, -, -, -, c1, c2, c3, -⟩ := t5 hz
      rw [← c3, hlen Ls c1 c2, pal_s, if_neg (fun w => w.2 (hk hz))]
    · exact t4 hz
  have eP : p_pg K L σ = e_k K L 0 (e_k K L 59 (p_e K L 10 false (e_k K L 8 (RS P t)))) := by
    unfold p_pg
    rw [hR, eR]
  unfold v_61_46
  refine Zt.imp (Zt.mo (d := 9) (by omega) (zs_73 (d := 0) (a1 := 8) hP hT t1 (by decide))) ?_
  rintro v1 s2 ⟨rfl, ⟨p1, p2, p3⟩, p4⟩
  rw [show (8 : Int32).toInt = 8 by decide] at p1
  refine ⟨rfl, by have := p2.2.2; omega, fun s3 hs3 => ?_⟩
  have r3 : RS P s3 = RS P s2 := by
    unfold RS
    rw [hs3, zf_1, zf_1, if_neg (by omega), if_neg (by omega)]
  have d3 : RDz K L P n s3 := by
    refine ⟨by rw [hs3, zf_2]; exact p2.1, by rw [hs3, zf_2]; exact p2.2.1, ?_⟩
    rw [hs3, zf_1, if_neg (by omega)]
    exact p2.2.2
  refine Zt.imp (Zt.mo (d := 44) (by omega) (zs_69 hP hT 10 (by omega) 1 0 s3 (by decide) (by decide) d3)) ?_
  rintro v4 s5 ⟨rfl, ⟨e1, e2, e3⟩, e4⟩
  rw [decide_eq_false (show ¬ 6 ≤ (0 : Int32).toInt by decide), r3, p1] at e1 e4
  refine ⟨rfl, ?_⟩
  refine Zt.imp (Zt.mo (d := 9) (by omega) (zs_73 (d := 0) (a1 := 59) hP hT e2 (by decide))) ?_
  rintro v6 s7 ⟨rfl, ⟨m1, m2, m3⟩, m4⟩
  rw [show (59 : Int32).toInt = 59 by decide, e1] at m1
  refine ⟨rfl, ?_⟩
  refine Zt.imp (Zt.mo (d := 9) (by omega) (zs_73z (d := 0) hP hT m2)) ?_
  rintro v8 s9 ⟨rfl, k1, k2, k3⟩
  rw [m1, ← eP] at k1
  -- what changed from t on
  have cell : ∀ a k, ¬ (a = 82 ∧ k = 3) → ¬ (a = P ∧ k = 14) → ¬ (a = P ∧ k = 11) → s9.1 a k = t.1 a k := fun a k h1 h2 h3 => by
    rw [k2.1 a k h1 h2, m3.1 a k h1 h2, e3.1 a k h1 h2, hs3, zf_1, if_neg h3, p3.1 a k h1 h2]
  have row : ∀ a, ¬ a = P + 12 → s9.2 a = t.2 a := fun a h1 => by
    rw [k3, m4, e3.2 a h1, hs3, zf_2, p4]
  refine ⟨rfl, rfl, k1, ⟨fun a k h1 h2 h3 h4 => ?_, fun a h1 h2 h3 => ?_⟩, fun hf => ?_⟩
  · rw [cell a k h1 h2 h3]
    exact t2.1 a k h1 h2 h4
  · rw [row a h1]
    exact t2.2.1 a h1 h2 h3
  · rw [eP] at hf
    have f1 := (ek_0 hf).1
    have f2 := (ek_0 f1).1
    have f3 := (pe_fw 10 _ _ f2).1
    obtain ⟨f4, f5, f6⟩ := ek_0 f3
    obtain ⟨Ls, c0, c1, c2, c3, c4, c5, c6⟩ := t5 f4
    have eL : LL = Ls := by rw [c6, hlen Ls c3 c4, lal_s, if_neg (fun w => w.2 (hk f4)), List.append_nil]
    obtain ⟨q1, q2⟩ := e4 f2
    have hr3 : (RS P s3).2 = (RS P t).2 + 1 := by rw [r3, p1, f6]
    rw [f6] at q1 q2
    dsimp only at q1 q2
    have fe := pe_fw (K := K) (L := L) 10 false (0, (RS P t).2 + 1) (by rw [← f6]; exact f2)
    -- the declarations stay
    have g2 : FZq [] P t s2 := FZq_r p3
    have g5 : FZq [] P s3 s5 := FZq_r e3
    have hz3 : ∀ r ∈ rwL, zsz s3 (P + r) = zsz s2 (P + r) := fun r hr => by
      unfold zsz
      rw [hs3, zf_1, if_neg (fun w => by have := w.2; omega)]
    have e32 : s3.2 = s2.2 := by rw [hs3, zf_2]
    have no : ∀ r ∈ ([] : List Nat), r ∈ rwL := fun r hr => absurd hr List.not_mem_nil
    have w2 : RWz K L P s2 (RS P t).2 Ls := RWz_r hP g2 (m' := (RS P t).2) (LO_eq p4) c1
    have a2 : ALz K L P s2 (RS P t).2 Ls := ALz_q g2 no c1 (fun i _ => by rw [p4]) (m' := (RS P t).2) (LO_eq p4) c2
    have w3 : RWz K L P s3 (RS P t).2 Ls := RWz_2 e32 hz3 w2
    have a3 : ALz K L P s3 (RS P t).2 Ls := ALz_2 e32 a2
    have q2' : LO P (RS P t).2 (p_e K L 10 false (0, (RS P t).2 + 1)).2 s3 s5 := LO_mo q2 (by omega) (Int.le_refl _)
    have w5 : RWz K L P s5 (RS P t).2 Ls := RWz_r hP g5 q2' w3
    have a5 : ALz K L P s5 (RS P t).2 Ls := ALz_q g5 no w3 (fun i _ => by rw [e3.2 (P + 22) (by omega)]) q2' a3
    have e92 : s9.2 = s5.2 := by rw [k3, m4]
    have hz9 : ∀ r ∈ rwL, zsz s9 (P + r) = zsz s5 (P + r) := fun r hr => by
      have hr2 : 24 ≤ r ∧ r ≤ 32 := by
        have : ∀ r ∈ rwL, 24 ≤ r ∧ r ≤ 32 := by decide
        exact this r hr
      unfold zsz
      rw [k2.1 _ _ (by omega) (by omega), m3.1 _ _ (by omega) (by omega)]
    rw [hLL, eL, hR, eR]
    refine ⟨(RS P t).2, RWz_2 e92 hz9 w5, ALz_2 e92 a5, rfl, c3, c4, ?_, LAz_eq e92 q1, by rw [← f6]; exact f2, ?_, f4⟩
    rotate_left
    · have h5 : (RS P s5).2 = (p_e K L 10 false (0, (RS P t).2 + 1)).2 := by rw [e1, f6]
      have h6 : (RS P s5).2 ≤ n := e2.2.2.2
      rw [← h5]
      exact h6
    rw [k2.1 _ _ (by omega) (by omega), m3.1 _ _ (by omega) (by omega), e3.1 _ _ (by omega) (by omega), hs3, zf_1, if_pos ⟨rfl, rfl⟩]
    have : (RS P s2).2 = (RS P t).2 + 1 := by rw [p1, f6]
    exact this
set_option maxHeartbeats 4000000 in
/-- read -/
theorem zs_61 (hP : P = 3 ∨ P = 39) (hT : TXp K L n) (hK : KI (s.2 (P + 4)) = K) (hL : KI (s.2 (P + 6)) = L) (hz : ∀ r ∈ rwL, zsz s (P + r) = 0) : Zu 61 [(82, 0), (82, 1), (82, 2)] [] [(82, 2, P + 4), (82, 1, P + 1), (82, 0, P)] 61 [.ref 82, .ref P] s (fun v s' => v = none ∧ CQz K L P n ((s.1 P 14).toInt, 0) s s') := by
  have hn := hT.1
  refine zc_61 (d := 52) hP ?_
  unfold v_61_0
  intro s1 hs1
  have r1 : RS P s1 = ((s.1 P 14).toInt, 0) := by
    rw [hs1, RS_at hP]
    rfl
  generalize hσ : (((s.1 P 14).toInt, 0) : RSt) = σ at r1
  have d1 : RDz K L P n s1 := ⟨by rw [hs1, zf_2]; exact hK, by rw [hs1, zf_2]; exact hL, by rw [hs1, zf_1, if_pos ⟨rfl, rfl⟩]; exact ⟨by decide, hn.1⟩⟩
  have z1 : ∀ r ∈ rwL, zsz s1 (P + r) = 0 := fun r hr => by
    have hr2 : 24 ≤ r ∧ r ≤ 32 := by
      have : ∀ r ∈ rwL, 24 ≤ r ∧ r ≤ 32 := by decide
      exact this r hr
    have := hz r hr
    unfold zsz at this ⊢
    rw [hs1, zf_1, if_neg (by omega)]
    exact this
  have f1 : FZq rwL P s s1 := FZq_mo (FZq_r (by rw [hs1]; exact FZr_at)) hP (fun r hr => absurd hr List.not_mem_nil) rw_ml
  have nn : ∀ z : Int, z = 0 → z = 6 * ((kTy K [] : Nat) : Int) ∧ z = 10 * ((kFn K [] : Nat) : Int) ∧ z = 5 * ((kHd K L [] : Nat) : Int) ∧ z = 5 * (((aSl K L 0 []).length : Nat) : Int) ∧ z = 3 * ((([] : List Int).length : Nat) : Int) := fun z hz => by
    subst hz
    exact ⟨rfl, rfl, rfl, rfl, rfl⟩
  refine ⟨fun a2 t => CLz K L P n σ s a2 t, fun a2 _ => (4001 - a2.toInt).toNat, ⟨d1, f1, by decide, fun hf => ?_, fun _ => ⟨[], by decide, ⟨⟨(nn _ (z1 24 (by decide))).1, (nn _ (z1 26 (by decide))).2.1, (nn _ (z1 28 (by decide))).2.2.1, (nn _ (z1 30 (by decide))).2.2.2.1, (nn _ (z1 32 (by decide))).2.2.2.2⟩, SLat_nil, ?_, ?_, fun q hq => absurd hq List.not_mem_nil⟩, ALz_nil, Nat.zero_le _, Nat.zero_le _, by rw [r1]; exact pal_0 4000, by rw [r1]; exact lal_0 4000⟩⟩, ?_⟩
  · rw [r1] at hf ⊢
    exact pal_f hf _ _ _
  · rw [r1, ← hσ]
    exact Int.le_refl _
  · rw [r1, ← hσ]
    exact Int.le_refl _
  rintro a2 t hI
  have hI' := hI
  obtain ⟨t1, t2, t3, t4, t5⟩ := hI'
  generalize hR : p_al K L 4000 0 0 σ = Rr at t4 t5
  generalize hLL : l_al K L 4000 0 0 σ = LL at t5
  have hlen : ∀ Ls : List Int, kTy K Ls ≤ 24 → kFn K Ls ≤ 60 → Ls.length ≤ 84 ∧ 4000 - Ls.length = (3999 - Ls.length) + 1 ∧ 4000 - (Ls.length + 1) = 3999 - Ls.length := fun Ls h1 h2 => by
    have := kTF (K := K) Ls
    omega
  unfold v_61_18
  refine ⟨fun w => zs_61e hP hT hI (fun hz => ?_), fun w => ⟨fun hf => zs_61e hP hT hI (fun hz => absurd hz hf), fun hz => ?_⟩⟩
  · obtain ⟨Ls, c0, -, -, c3, c4, -⟩ := t5 hz
    have := (hlen Ls c3 c4).1
    omega
  have hz' : (RS P t).1 = 0 := hz
  obtain ⟨Ls, c0, c1, c2, c3, c4, c5, c6⟩ := t5 hz'
  obtain ⟨l0, l1, l2⟩ := hlen Ls c3 c4
  have eτ : RS P t = (0, (RS P t).2) := by rw [← hz']
  have ek : (zg t (P + 4) (t.1 82 3)).toInt = K (RS P t).2 := by rw [zg_K, t1.1]; rfl
  rw [ek]
  refine ⟨fun h8 => zs_61e hP hT hI (fun _ => h8), fun h8 => ?_⟩
  rw [l1, pal_s, if_pos ⟨hz', h8⟩] at c5
  rw [l1, lal_s, if_pos ⟨hz', h8⟩] at c6
  have el : (Ls ++ [(RS P t).2]).length = Ls.length + 1 := by
    rw [List.length_append]
    rfl
  obtain ⟨⟨y1, y2, y3, y4, y5⟩, y6, y7, y8, y9⟩ := c1
  have c1 : RWz K L P t (RS P t).2 Ls := ⟨⟨y1, y2, y3, y4, y5⟩, y6, y7, y8, y9⟩
  have lTF := kTF (K := K) Ls
  have nxt : ∀ (x1 : Int32), (-2147483648 ≤ a2.toInt + 1 ∧ a2.toInt + 1 ≤ 2147483647 → x1.toInt = a2.toInt + 1) → x1.toInt = a2.toInt + 1 ∧ (4001 - x1.toInt).toNat < (4001 - a2.toInt).toNat := fun x1 hx1 => by
    have := hx1 (by omega)
    omega
  refine ⟨fun h6 => ?_, fun h6 => ?_⟩
  · -- a type
    rw [if_neg h6] at c5 c6
    refine Zt.imp (Zt.mo (d := 52) (by omega) (zs_62 hP hT t1)) ?_
    rintro v1 s2 ⟨rfl, q1, q2, q3, q4⟩
    have eb : decide (24 ≤ zsz t (P + 24) / 6) = decide (24 ≤ kTy K Ls) := by
      rw [y1, Int.mul_ediv_cancel_left _ (by decide)]
      exact dec_n
    rw [eb] at q1 q4
    refine ⟨rfl, ?_⟩
    unfold v_61_44
    intro x1 hx1
    obtain ⟨n1, n2⟩ := nxt x1 hx1
    refine ⟨⟨q2, FZq_tr t2 (FZq_mo q3 hP (by decide) rw_ml), by omega, fun hf => ?_, fun hf => ?_⟩, n2⟩
    · rw [q1] at hf
      rw [pal_f hf] at c5
      rw [hR, q1, c5]
    · rw [q1] at hf
      have hF : kTy K Ls < 24 := by
        rcases Nat.lt_or_ge (kTy K Ls) 24 with h | h
        · exact h
        · exfalso
          rw [decide_eq_true h] at hf
          by_cases h3 : K (RS P t).2 = 3
          · rw [pty_t hz' h3] at hf
            dsimp only at hf
            have := RD_L hT t1
            unfold RS at hf
            dsimp only at hf
            omega
          · rw [pty_n hz' h3] at hf
            dsimp only at hf
            omega
      rw [decide_eq_false (by omega)] at q1 q4 hf c5 c6
      obtain ⟨g1, g2, g3, g4, g5, g6, g7, g8, g9⟩ := q4 (aSl K L 0 Ls).length (kHd K L Ls) (kTy K Ls) Ls.length hf y4 y3 y1 y5 y7 y8 (by omega) (by omega)
      have esD : tSlt K L (kHd K L Ls) false (RS P t) = sDc K L (kHd K L Ls) (RS P t).2 := by
        unfold sDc
        rw [if_neg h6, ← eτ]
      rw [esD] at g1 g9
      have e1 : kTy K (Ls ++ [(RS P t).2]) = kTy K Ls + 1 := by rw [kTy_app, if_neg h6]
      have e2 : kFn K (Ls ++ [(RS P t).2]) = kFn K Ls := by rw [kFn_app, if_neg h6]; omega
      have e3 : kHd K L (Ls ++ [(RS P t).2]) = kHd K L Ls + tNh K L false (RS P t) := by rw [kHd_app, if_neg h6, ← eτ]
      refine ⟨Ls ++ [(RS P t).2], by rw [el]; omega, RWz_add c1 q3 rfl g1 (by rw [e1, g5]; omega) (by rw [e2, FZq_sz q3 (by decide) hP (by decide)]; exact y2) (by rw [e3, g2]; omega) (by rw [el, g6]; omega) (by rw [e3]; omega), ?_, by omega, by omega, ?_, ?_⟩
      · refine ALz_add (ALz_mo g1.2.2.1 (ALz_q q3 (by decide) c1 (fun i hi => ?_) g1.2.2.2.1 c2)) (fun w => absurd w h6) (fun _ => ?_)
        · rw [g7 i, if_neg (by omega)]
        · unfold TYz
          rw [← eτ]
          refine ⟨g4, by rw [g7, if_pos rfl], g8, g9⟩
      · rw [el, e1, e2, l2, hR, q1]
        exact c5
      · rw [el, e1, e2, l2, hLL, c6, q1]
        simp
  · -- a func
    rw [if_pos h6] at c5 c6
    refine Zt.imp (Zt.mo (d := 60) (by omega) (zs_63 hP hT t1)) ?_
    rintro v1 s2 ⟨rfl, q1, q2, q3, q22, q4⟩
    have eb : decide (60 ≤ zsz t (P + 26) / 10) = decide (60 ≤ kFn K Ls) := by
      rw [y2, Int.mul_ediv_cancel_left _ (by decide)]
      exact dec_n
    rw [eb] at q1 q4
    refine ⟨rfl, ?_⟩
    unfold v_61_44
    intro x1 hx1
    obtain ⟨n1, n2⟩ := nxt x1 hx1
    refine ⟨⟨q2, FZq_tr t2 (FZq_mo q3 hP (by decide) rw_ml), by omega, fun hf => ?_, fun hf => ?_⟩, n2⟩
    · rw [q1] at hf
      rw [pal_f hf] at c5
      rw [hR, q1, c5]
    · rw [q1] at hf
      have hF : kFn K Ls < 60 := by
        rcases Nat.lt_or_ge (kFn K Ls) 60 with h | h
        · exact h
        · exfalso
          rw [decide_eq_true h, pfn_t hz'] at hf
          dsimp only at hf
          omega
      rw [decide_eq_false (by omega)] at q1 q4 hf c5 c6
      obtain ⟨g1, g2, g3, g4, g5, g6, g7, g8, g9⟩ := q4 (aSl K L 0 Ls).length (kHd K L Ls) (kFn K Ls) Ls.length hf y4 y3 y2 y5 y7 y8 (by omega) (by omega)
      have esD : fSlt K L (kHd K L Ls) false (RS P t) = sDc K L (kHd K L Ls) (RS P t).2 := by
        unfold sDc
        rw [if_pos h6, ← eτ]
      rw [esD] at g1 g8
      have e1 : kTy K (Ls ++ [(RS P t).2]) = kTy K Ls := by rw [kTy_app, if_pos h6]; omega
      have e2 : kFn K (Ls ++ [(RS P t).2]) = kFn K Ls + 1 := by rw [kFn_app, if_pos h6]
      have e3 : kHd K L (Ls ++ [(RS P t).2]) = kHd K L Ls + 1 := by rw [kHd_app, if_pos h6]
      have hE : (p_e K L 10 false (f_7 K L false (RS P t))).2 ≤ (RS P s2).2 := by
        have hx := ek_0 (show (e_k K L 125 (p_e K L 10 false (f_7 K L false (RS P t)))).1 = 0 from hf)
        rw [q1]
        show _ ≤ (e_k K L 125 (p_e K L 10 false (f_7 K L false (RS P t)))).2
        rw [hx.2.2]
        dsimp only
        omega
      refine ⟨Ls ++ [(RS P t).2], by rw [el]; omega, RWz_add c1 q3 rfl g1 (by rw [e1, FZq_sz q3 (by decide) hP (by decide)]; exact y1) (by rw [e2, g5]; omega) (by rw [e3, g2]; omega) (by rw [el, g6]; omega) (by rw [e3]; omega), ?_, by omega, by omega, ?_, ?_⟩
      · refine ALz_add (ALz_mo g1.2.2.1 (ALz_q q3 (by decide) c1 (fun i hi => ?_) g1.2.2.2.1 c2)) (fun _ => ?_) (fun w => absurd h6 w)
        · rw [q22]
        · unfold FNz
          rw [← eτ]
          exact ⟨g4, g7, g8, g9, hE⟩
      · rw [el, e1, e2, l2, hR, q1]
        exact c5
      · rw [el, e1, e2, l2, hLL, c6, q1]
        simp
end SRD
