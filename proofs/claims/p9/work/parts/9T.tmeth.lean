/-! ===== typeMethod ===== -/
section TM
variable (own : Nat → Nat × Nat) (b n W N T F H S0 : Nat) (G : PG) (fo : Option Nat) (m p lo hi e a hm S O P E S1 O1 P1 : Nat) (A0 : List Nat) (s s1 : yS)
/-- the part ahead of the point is typed -/
def MS : Prop := TW own b n W N T F H S0 G fo S O P E s ∧ TCo own b N (m + 1) lo hi S O P E s ∧ TFr tK b lo e S P E O s s1 ∧ f8 s s1 ∧ S ≤ S1 ∧ S1 ≤ S + (e - lo) ∧ O ≤ O1 ∧ O1 ≤ O + 60 * cM s lo e ∧ P ≤ P1 ∧ P1 ≤ P + 130 * (p + 1) ∧ p ≤ 19 ∧ lo ≤ e ∧ e < hm ∧ hm ≤ hi ∧ (s.2.1 227 e).toInt = (a : Int) ∧ (s.2.1 228 a).toInt = (e : Int) ∧ (s.2.1 221 e).toInt = 4 ∧ tkN b n s (s.2.1 222 e).toInt ∧ wER G H b n fo m p lo e a s1 S1 O1 A0 ∧ TW own b n W N T F H S0 G fo S1 O1 P1 E s1
def MEQ : Option Value → yS → Prop := fun v s' => v = none ∧ TEQ b lo hi S O P E (130 * (p + 2)) (wER G H b n fo m (p + 1) lo hi e) s s'
end TM
theorem nu8 {S S1 S' e lo hi : Nat} (h1 : S1 ≤ S + (e - lo)) (h2 : S' ≤ S1 + (hi - e)) (h3 : lo ≤ e) (h4 : e ≤ hi) : S' ≤ S + (hi - lo) := by omega
theorem nu9 {O O1 O' c c' c'' : Nat} (h1 : O1 ≤ O + 60 * c) (h2 : O' ≤ O1 + 60 * c') (h3 : c + c' = c'') : O' ≤ O + 60 * c'' := by omega
theorem nu10 {P P1 P' p : Nat} (h : P1 ≤ P + 130 * (p + 1)) (h3 : P' ≤ P1 + 130) : P' ≤ P + 130 * (p + 2) := by omega
section TM2
variable {own : Nat → Nat × Nat} {b n W N T F H S0 : Nat} {G : PG} {fo : Option Nat} {m p lo hi e a hm S O P E S1 O1 P1 : Nat} {A0 : List Nat} {s s1 : yS}
theorem m_end {S' O' P' : Nat} {w : yS} (hM : MS own b n W N T F H S0 G fo m p lo hi e a hm S O P E S1 O1 P1 A0 s s1) (Fw : TFr tK b e hi S1 P1 E O1 s1 w) (fw : f8 s1 w) (h64 : (w.1 64).toInt = (P' : Int)) (h65 : (w.1 65).toInt = (S' : Int)) (h85 : (w.1 85).toInt = (O' : Int)) (k1 : S1 ≤ S') (k2 : S' ≤ S1 + (hi - e)) (k3 : O1 ≤ O') (k4 : O' ≤ O1 + 60 * cM s e hi) (k5 : P1 ≤ P') (k6 : P' ≤ P1 + 130) (hA : (w.1 8).toInt = 0 → ∃ (A : List Nat) (q : Nat), (w.1 80).toInt = (q : Int) ∧ (w.1 81).toInt = (A.length : Int) ∧ seg w q A.length = A ∧ (q + A.length ≤ S' ∨ 100000 ≤ q) ∧ q + A.length ≤ P' ∧ wM G H b n (scX G fo) S' O' w (wE G H b n (scX G fo) (tVX G fo) S' O' w m) hi e A0 A ∧ okE G (scX G fo) A ∧ A.length ≤ 60) : TEQ b lo hi S O P E (130 * (p + 2)) (wER G H b n fo m (p + 1) lo hi e) s w := by
  obtain ⟨c1, c2, c3, c4, c5, c6, c7, c8, c9, c10, c11, c12, c13, c14, c15, c16, c17, c18, c19, c20⟩ := hM
  have hS1P : S1 ≤ P1 := Nat.le_trans (Nat.le_trans (TW_num c20).2.2.2.2.2.2.2 (by decide)) c20.2.2.2.2.2.2.2.2.2.2.2.2
  have F : TFr tK b lo hi S P E O s w := TF_tr (TF_mo c3 (fun _ w => w) (Nat.le_refl _) (by omega) (Nat.le_refl _) (Nat.le_refl _) (Nat.le_refl _) (Nat.le_refl _)) Fw (fun _ w => w) c12 (Nat.le_refl _) c5 c9 (Nat.le_refl _) c7
  refine ⟨F, f8_tr c4 fw, S', O', P', h64, h65, h85, Nat.le_trans c5 k1, nu8 c6 k2 c12 (by omega), Nat.le_trans c7 k3, nu9 c8 k4 (cM_add c12 (by omega)), Nat.le_trans c9 k5, nu10 c10 k6, fun q => ?_⟩
  obtain ⟨A, q', a1, a2, a3, a4, a5, a6, a7, a8⟩ := hA q
  refine ⟨A, q', a1, a2, a3, a4, a5, by omega, a, A0, by rw [TF_row F (by decide)]; exact c15, by rw [TF_row F (by decide)]; exact c16, wER_CA (TF_CA Fw (Or.inl (Nat.le_refl _)) hS1P) k1 k3 c19, Or.inr (Or.inr ⟨by rw [TF_row F (by decide)]; exact c17, a6⟩), a7, a8⟩
/-- what is known once env is laid; t the state then -/
def ME (own : Nat → Nat × Nat) (b n W N T F H S0 : Nat) (G : PG) (fo : Option Nat) (m hi e hm E S1 O1 P1 S2 O2 P2 ps ls x h cd : Nat) (A0 M : List Nat) (As Bs : List (List Nat)) (cs : List (Nat × Nat × Nat)) (s1 t : yS) : Prop := TFr (70 :: tK) b e hm S1 P1 E O1 s1 t ∧ f8 s1 t ∧ TW own b n W N T F H S0 G fo S2 O2 P2 (E + 1) t ∧ S1 ≤ S2 ∧ S2 ≤ S1 + (hm - e) ∧ O1 ≤ O2 ∧ O2 ≤ O1 + 60 ∧ P1 ≤ P2 ∧ P2 ≤ P1 + 66 ∧ (t.2.1 271 e).toInt = (O1 : Int) ∧ (t.2.1 272 e).toInt = (A0.length : Int) ∧ O1 + A0.length ≤ O2 ∧ sg t O1 A0.length = A0 ∧ midT G A0 M ∧ cutT M x As ∧ okE G (scX G fo) M ∧ x / 8 < gT G ∧ isHd G (x / 8) (t.2.1 217 (t.2.1 222 e).toInt.toNat).toInt h cd ∧ h < H ∧ wY G b (scX G fo) S2 t (t.2.1 229 e).toInt e hm Bs ∧ (∀ B ∈ Bs, okE G (scX G fo) B) ∧ Bs.length = ghn G h ∧ cs.length = gvn G h ∧ chn t (t.2.1 224 e).toInt (cs.map (·.2.2)) ∧ AIc own b n N m hm hi S2 O2 P2 (E + 1) cs t ∧ EV t E P2 cd As (2000 + 6 * h) Bs ∧ EVl S2 t E As Bs
theorem m241 {d q' S' O' P' : Nat} {A : List Nat} {a1 a2 a3 a4 a5 a6 a7 : Int32} {w : yS} (hM : MS own b n W N T F H S0 G fo m p lo hi e a hm S O P E S1 O1 P1 A0 s s1) (Fw : TFr (70 :: tK) b e hi S1 P1 E O1 s1 w) (fw : f8 s1 w) (h70 : (w.1 70).toInt = (E : Int) + 1) (h64 : (w.1 64).toInt = (P' : Int)) (h65 : (w.1 65).toInt = (S' : Int)) (h85 : (w.1 85).toInt = (O' : Int)) (k1 : S1 ≤ S') (k2 : S' ≤ S1 + (hi - e)) (k3 : O1 ≤ O') (k4 : O' ≤ O1 + 60 * cM s e hi) (k5 : P1 ≤ P') (k6 : P' ≤ P1 + 130) (hA : (w.1 8).toInt = 0 → (w.1 71).toInt = (q' : Int) ∧ (w.1 72).toInt = (A.length : Int) ∧ seg w q' A.length = A ∧ 100000 ≤ q' ∧ q' + A.length ≤ P' ∧ wM G H b n (scX G fo) S' O' w (wE G H b n (scX G fo) (tVX G fo) S' O' w m) hi e A0 A ∧ okE G (scX G fo) A ∧ A.length ≤ 60) : w_226_241 (Tot (d + 1)) a1 a2 a3 a4 a5 a6 a7 w (MEQ b n H G fo m p lo hi e S O P E s) := by
  have c2 := hM.2.1.2.2.2.2.2.2.2
  have c70 : (s1.1 70).toInt = (E : Int) := hM.2.2.2.2.2.2.2.2.2.2.2.2.2.2.2.2.2.2.2.2.2.2.2.2.1
  unfold w_226_241
  refine ⟨by omega, ?_⟩
  rintro x1 hx1 s2 rfl
  have ex : x1 = s1.1 70 := Int32.toInt_inj.mp (by omega)
  rw [ex]
  refine Tot.imp (Tot.mono (by omega) (s_216 (d := 0))) ?_
  rintro v s3 ⟨rfl, rfl⟩
  refine ⟨rfl, rfl, m_end hM (TF_sf (TF_sf (TF_back Fw) (by decide)) (by decide)) fw h64 h65 h85 k1 k2 k3 k4 k5 k6 (fun q => ?_)⟩
  obtain ⟨z1, z2, z3, z4, z5, z6, z7, z8⟩ := hA q
  refine ⟨A, q', z1, z2, ?_, Or.inr z4, z5, ?_, z7, z8⟩
  · refine Eq.trans (seg_2 (s := w) ?_) z3
    rfl
  · have hehi : e < hi := by have := hM.2.2.2.2.2.2.2.2.2.2.2.2.1; have := hM.2.2.2.2.2.2.2.2.2.2.2.2.2.1; omega
    exact wM_eq (s := w) (S := S') (O := O') (CA_2 rfl) (Nat.le_refl _) (Nat.le_refl _) hehi (fun l h e' B _ _ hq => wE_eq (s := w) (Nat.le_refl _) (Nat.le_refl _) (CA_2 rfl) hq) z6
end TM2
