/-! ===== the reference: program, its loops ===== -/
/-- a program stands: its tables, the code of every E in the nodes -/
def RPg (K L W ar kd : Int → Int) (TN Ls : List Int) (n B b mB : Int) (s : yS) : Prop := ∃ A0 x y : Int, RST K L W ar kd TN Ls n B b A0 x y s ∧ (B ≤ x ∧ y ≤ (s.1 26).toInt ∧ A0 ≤ (s.1 65).toInt) ∧ (∀ (i : Nat) (t : Int), Ls[i]? = some t → K t = 6 → ∃ x' y' : Int, (x ≤ x' ∧ y' ≤ y) ∧ eC K L W ar kd TN Ls B (4000 + 6 * (kFn K (Ls.take i) : Int)) (2000 + 6 * (kHd K L (Ls.take i) : Int)) (fnS K L W ar TN Ls i t) A0 (s.1 65).toInt s 10 x' y' (f_7 K L false (0, t)).2 (s.2.1 258 (60 * b + (kFn K (Ls.take i) : Int)).toNat).toInt) ∧ ∃ x' y' : Int, (x ≤ x' ∧ y' ≤ y) ∧ eC K L W ar kd TN Ls B 1000 2000 mnS A0 (s.1 65).toInt s 10 x' y' mB (s.2.1 259 b.toNat).toInt
/-- it stood, and but for main's TYPE nothing was written since -/
def RPs (K L W ar kd : Int → Int) (TN Ls : List Int) (n B b mB : Int) (u : yS) : Prop := ∃ s0, RPg K L W ar kd TN Ls n B b mB s0 ∧ (∀ q, ¬ q = 273 → ¬ q = 274 → u.2.1 q = s0.2.1 q) ∧ u.1 65 = s0.1 65 ∧ u.1 26 = s0.1 26
def pFin (F : Int) (Ψ : yS → Prop) (v : Option Value) (s' : yS) : Prop := ∃ r : Int32, v = some (.int r) ∧ r.toInt = F ∧ (F = 0 → Ψ s')
/-- what was read, and where its checks stand -/
def RW0 (K L : Int → Int) (Ls : List Int) (B b x y m : Int) (s : yS) : Prop := ALr K L B s b (204 * b) x y Ls ∧ (s.2.1 263 b.toNat).toInt = (Ls.length : Int) ∧ (s.2.1 252 b.toNat).toInt = (kFn K Ls : Int) ∧ ErA K L B s 259 b x y (m + 1) ∧ (s.1 30).toInt = b ∧ (s.1 64).toInt = 100000 ∧ (s.1 70).toInt = 0
section ZZW
variable {K L W ar kd : Int → Int} {n lo hi B b A A0 x y m F : Int} {TN Ls : List Int} {d i k : Nat} {t : Int} {a1 a2 : Int32} {s s' u : yS} {D : Int → Prop} {T : Nat → List Value → yS → (Option Value → yS → Prop) → Prop} {R91 : Int32 → yS → Prop} {Q : Option Value → yS → Prop} {Ψ : yS → Prop}
theorem u_207 (h : (s.1 8).toInt = F) (h0 : ¬ F = 0) : ub_230_207 T a1 s (pFin F Ψ) := by
  unfold ub_230_207
  rintro s1 rfl
  exact ⟨_, rfl, by rw [sf_1, if_neg (by decide)]; exact h, fun q => absurd q h0⟩
theorem u_149x (h : (s.1 8).toInt = F) (h0 : ¬ (s.1 8).toInt = 0) : ub_230_149 T a1 s (pFin F Ψ) := by
  unfold ub_230_149 ub_230_167
  exact ⟨fun _ => ⟨fun _ => u_207 h (fun q => h0 (h.trans q)), fun z => absurd z h0⟩, fun z => absurd z h0⟩
theorem u_127x (h : (s.1 8).toInt = F) (h0 : ¬ (s.1 8).toInt = 0) : ub_230_127 T a1 s (pFin F Ψ) := by
  unfold ub_230_127 ubl_230_129
  refine ⟨fun _ w => w = s, rfl, ?_⟩
  rintro c1 w rfl
  unfold ub_230_129
  exact fun _ => ⟨fun _ => u_149x h h0, fun _ => ⟨fun _ => u_149x h h0, fun z => absurd z h0⟩⟩
theorem u_91x (h : (s.1 8).toInt = F) (h0 : ¬ (s.1 8).toInt = 0) (hR : ∀ x1, R91 x1 s) : ub_230_91 T R91 a1 s (pFin F Ψ) := by
  unfold ub_230_91
  refine ⟨fun _ => ⟨fun _ => u_127x h h0, fun z => absurd z h0⟩, fun _ => ?_⟩
  unfold ubl_230_96
  refine ⟨fun _ _ w => w = s, rfl, ?_⟩
  rintro c1 c2 w rfl
  unfold ub_230_96 ub_230_120
  exact fun _ => ⟨fun _ _ x1 _ => hR x1, fun _ => ⟨fun _ _ x1 _ => hR x1, fun z => absurd z h0⟩⟩
theorem RBh_of {h0 : Int} (h75 : (s.1 75).toInt = b) (hQ : WEQ K W B n s) (hT : RTk K L B n s) (hA : ALr K L B s b h0 x y Ls) (h33 : (s.2.1 233 b.toNat).toInt = (kTy K Ls : Int)) (hAt : ∀ (i : Nat) (t : Int), Ls[i]? = some t → ¬ K t = 6 → ar (kTy K (Ls.take i) : Int) = ((tFo K L false (0, t)).length : Int)) : RBh K L W ar (kdF K L Ls) n B b s (tnF K Ls) := by
  have hl : (tnF K Ls).length = kTy K Ls := by unfold tnF; rw [List.length_map, tyL_len]
  refine ⟨h75, hQ, hT, ⟨by rw [hl]; exact h33, fun i u hu => ?_⟩, fun c c0 c1 => ?_, fun c c0 c1 => ?_, fun c hc => kdF_no (by rw [hl] at hc; exact hc)⟩
  · unfold tnF at hu
    rw [List.getElem?_map] at hu
    obtain ⟨t, ht, rfl⟩ := Option.map_eq_some_iff.mp hu
    obtain ⟨j, g1, g2, g3⟩ := tyL_inv Ls i t ht
    obtain ⟨-, ⟨f0, -⟩, -⟩ := (hA j t g1).2 g2
    rw [g3]
    exact f0
  · rw [hl] at c1
    obtain ⟨i, t, g1, g2, rfl⟩ := ty_dc c0 c1
    obtain ⟨-, ⟨-, f1, -⟩, -⟩ := (hA i t g1).2 g2
    rw [hAt i t g1 g2]
    exact f1
  · rw [hl] at c1
    obtain ⟨i, t, g1, g2, rfl⟩ := ty_dc c0 c1
    obtain ⟨-, ⟨-, -, -, -, f4, -⟩, -⟩ := (hA i t g1).2 g2
    rw [kdF_at g1 g2, f4]
    by_cases w : tSt K L false (0, t) = true
    · rw [if_pos w, if_pos w]
      exact Or.inl ⟨rfl, rfl⟩
    · rw [if_neg w, if_neg w]
      exact Or.inr ⟨rfl, rfl⟩
theorem ALr_W {h0 : Int} (g : ∀ p, ¬ p = 231 → ¬ p = 232 → ¬ p = 264 → ¬ p = 261 → s'.2.1 p = s.2.1 p) (h : ALr K L B s b h0 x y Ls) : ALr K L B s' b h0 x y Ls := fun i t ht => by
  obtain ⟨aF, aT⟩ := h i t ht
  refine ⟨fun h6 => ?_, fun h6 => ?_⟩
  · obtain ⟨k0, k1⟩ := aF h6
    exact ⟨by rw [g 262 (by decide) (by decide) (by decide) (by decide)]; exact k0, FNr_W g k1⟩
  · obtain ⟨k0, k1⟩ := aT h6
    exact ⟨by rw [g 262 (by decide) (by decide) (by decide) (by decide)]; exact k0, TYr_W g k1⟩
theorem ErA_W {j : Int} (g : ∀ p, ¬ p = 231 → ¬ p = 232 → ¬ p = 264 → ¬ p = 261 → s'.2.1 p = s.2.1 p) (h : ErA K L B s 259 j x y t) : ErA K L B s' 259 j x y t := by
  obtain ⟨a, c, e, q1, q2, q3, q4, q5, q6⟩ := h
  refine ⟨a, c, e, q1, q2, q3, q4, by rw [g 259 (by decide) (by decide) (by decide) (by decide)]; exact q5, ?_⟩
  exact eT_eq 10 _ _ _ _ q6 ⟨fun p i hp _ _ => by rw [g p (by omega) (by omega) (by omega) (by omega)], fun i _ _ _ => by rw [g 225 (by decide) (by decide) (by decide) (by decide)]⟩
theorem ErA_e {j : Int} (g : EF0 D B A0 s s') (h : ErA K L B s 259 j x y t) : ErA K L B s' 259 j x y t := by
  obtain ⟨a, c, e, q1, q2, q3, q4, q5, q6⟩ := h
  exact ⟨a, c, e, q1, q2, q3, q4, by rw [EF0_r g (q := 259) (by unfold rEx; omega)]; exact q5, eT_e g _ _ _ _ _ q6⟩
theorem RW0_W (g : ∀ p, ¬ p = 231 → ¬ p = 232 → ¬ p = 264 → ¬ p = 261 → s'.2.1 p = s.2.1 p) (f30 : s'.1 30 = s.1 30) (f64 : s'.1 64 = s.1 64) (f70 : s'.1 70 = s.1 70) (h : RW0 K L Ls B b x y m s) : RW0 K L Ls B b x y m s' := by
  obtain ⟨h1, h2, h3, h4, h5, h6, h7⟩ := h
  exact ⟨ALr_W g h1, by rw [g 263 (by decide) (by decide) (by decide) (by decide)]; exact h2, by rw [g 252 (by decide) (by decide) (by decide) (by decide)]; exact h3, ErA_W g h4, by rw [f30]; exact h5, by rw [f64]; exact h6, by rw [f70]; exact h7⟩
theorem twA_st {j : Nat} (h : ¬ frst L (twA W K L Ls k) 0 = 0) : frst L (twA W K L Ls (k + j)) 0 = frst L (twA W K L Ls k) 0 := by
  induction j with
  | zero => rfl
  | succ j ih =>
    show frst L (twA W K L Ls (k + j) ++ _) 0 = _
    rw [frst_app, ih]
    exact frst_n _ _ h
/-- names told twice -/
theorem u_t0 (hX : TXp K L n) (hb : 0 ≤ b) (hDc : dcC K L lo hi Ls) (hlo : 0 ≤ lo) (hhi : hi ≤ n) (hT24 : kTy K Ls ≤ 24) (hw : RW0 K L Ls B b x y m s) (hQ : WEQ K W B n s) (hK : RTk K L B n s) (h8 : (s.1 8).toInt = 0) (hR : ∀ (x1 : Int32) (u : yS), R8 s u → (u.1 8).toInt = frst L (twA W K L Ls Ls.length) 0 → x1.toInt = 1 → R91 x1 u) : ubl_230_96 (Par d) R91 0 0 s Q := by
  obtain ⟨hA, w263, -, -, w30, -, -⟩ := hw
  unfold ubl_230_96
  refine ⟨fun c1 c2 u => c1 = 0 ∧ R8 s u ∧ ∃ k : Nat, k ≤ Ls.length ∧ c2.toInt = (k : Int) ∧ (u.1 8).toInt = frst L (twA W K L Ls k) 0, ⟨rfl, R8_rf, 0, Nat.zero_le _, by decide, h8⟩, ?_⟩
  rintro c1 c2 u ⟨rfl, i1, k, i2, i3, i4⟩
  have e2 : u.2 = s.2 := i1.1
  have e30 : (u.1 30).toInt = b := by rw [i1.2 30 (by decide)]; exact w30
  have v263 : (u.2.1 263 (u.1 30).toInt.toNat).toInt = (Ls.length : Int) := by rw [e30, e2]; exact w263
  have out : (k = Ls.length ∨ ¬ (u.1 8).toInt = 0) → ub_230_120 (Par d) R91 0 c2 u Q := fun hc => by
    unfold ub_230_120
    intro _ x1 hx1
    refine hR x1 u i1 ?_ (by rw [hx1]; decide)
    rcases hc with e | e
    · rw [i4, e]
    · rw [i4] at e
      have := twA_st (j := Ls.length - k) e
      rw [show k + (Ls.length - k) = Ls.length by omega] at this
      rw [i4, this]
  unfold ub_230_96
  intro _
  rw [v263]
  refine ⟨fun h => out (Or.inl (by omega)), fun h => ⟨fun z => out (Or.inr z), fun z _ x1 hx1 _ x2 hx2 _ => ?_⟩⟩
  obtain ⟨t, ht⟩ : ∃ t, Ls[k]? = some t := ⟨_, List.getElem?_eq_getElem (by omega)⟩
  have hx2' : x2.toInt = 84 * b + (k : Int) := by rw [hx2, hx1, e30, i3]
  refine Par.imp (x_231z hX hb hDc hlo hhi hA hQ hK w30 hT24 i1 z ht ⟨fun h6 => ?_, fun h6 => ?_⟩) ?_
  · rw [hx2', e2]
    exact ((hA k t ht).1 h6).1
  · rw [hx2', e2]
    exact ((hA k t ht).2 h6).1
  rintro v4 s3 ⟨rfl, g1, g2⟩
  refine ⟨rfl, fun _ x5 hx5 => ⟨rfl, g1, k + 1, by omega, by omega, ?_⟩⟩
  rw [g2, twA_s ht, frst_app, ← i4, z]
theorem fM_tk {f : Int → List Int} (hk : k ≤ Ls.length) (h : ¬ ffs ((Ls.take k).flatMap f) = 0) : ffs (Ls.flatMap f) = ffs ((Ls.take k).flatMap f) := by
  conv => lhs; rw [← List.take_append_drop k Ls, List.flatMap_append]
  rw [ffs_app, if_neg h]
/-- TYPES told -/
theorem u_t1 (hX : TXp K L n) (hb : 0 ≤ b) (hB : 0 ≤ B) (hlo : 0 ≤ lo) (hhi : hi ≤ n) (hDc : dcC K L lo hi Ls) (hw : RW0 K L Ls B b x y m s) (hR0 : RBh K L W ar kd n B b s TN) (hTN : ∀ v ∈ TN, wTk K n v) (hl : TN.length ≤ 24) (har : (∀ c : Int, 24 ≤ c → ar c = 0) ∧ ∀ c : Int, 0 ≤ ar c ∧ ar c ≤ 7) (h65 : 10 + 4100 * (B / 4002) ≤ (s.1 65).toInt) (hT24 : kTy K Ls ≤ 24) (h8 : (s.1 8).toInt = 0) (hR : ∀ (x1 : Int32) (u : yS), (u.1 8).toInt = ffs (Ls.flatMap (rFs K L W ar kd TN)) → ((u.1 8).toInt = 0 → RA3 K L W ar kd TN B b lo hi Ls s Ls.length u) → x1.toInt = 2 → R91 x1 u) : ubl_230_96 (Par d) R91 1 0 s Q := by
  obtain ⟨hA, w263, -, -, w30, -, -⟩ := hw
  unfold ubl_230_96
  refine ⟨fun c1 c2 u => c1 = 1 ∧ ∃ k : Nat, c2.toInt = (k : Int) ∧ RA3 K L W ar kd TN B b lo hi Ls s k u, ⟨rfl, 0, by decide, RA3_0 hDc h8⟩, ?_⟩
  rintro c1 c2 u ⟨rfl, k, i3, i4⟩
  have fu := i4.2.1
  have e30 : (u.1 30).toInt = b := by rw [fu.1 30 (by decide) (by decide) (by decide) (by decide) (by decide)]; exact w30
  have v263 : (u.2.1 263 (u.1 30).toInt.toNat).toInt = (Ls.length : Int) := by rw [e30, RWf_r fu (by decide) (by decide) (by decide) (by decide)]; exact w263
  have hkl := i4.1
  have out : (k = Ls.length ∨ ¬ (u.1 8).toInt = 0) → ub_230_120 (Par d) R91 1 c2 u Q := fun hc => by
    unfold ub_230_120
    intro _ x1 hx1
    have e4 := i4.2.2.1
    refine hR x1 u ?_ (fun z => ?_) (by rw [hx1]; decide)
    · rcases hc with e | e
      · rw [e, List.take_length] at e4
        exact e4
      · rw [e4] at e ⊢
        exact (fM_tk hkl e).symm
    · rcases hc with e | e
      · rw [← e]
        exact i4
      · exact absurd z e
  unfold ub_230_96
  intro _
  rw [v263]
  refine ⟨fun h => out (Or.inl (by omega)), fun h => ⟨fun z => out (Or.inr z), fun z _ x1 hx1 _ x2 hx2 _ => ?_⟩⟩
  obtain ⟨t, ht⟩ : ∃ t, Ls[k]? = some t := ⟨_, List.getElem?_eq_getElem (by omega)⟩
  have hx2' : x2.toInt = 84 * b + (k : Int) := by rw [hx2, hx1, e30, i3]
  refine Par.imp (x_231w hX hb hB hlo hhi hDc hA hR0 hTN hl har w30 h65 hT24 i4 z ht ⟨fun h6 => ?_, fun h6 => ?_⟩) ?_
  · rw [hx2', RWf_r fu (by decide) (by decide) (by decide) (by decide)]
    exact ((hA k t ht).1 h6).1
  · rw [hx2', RWf_r fu (by decide) (by decide) (by decide) (by decide)]
    exact ((hA k t ht).2 h6).1
  rintro v4 s3 ⟨rfl, g1⟩
  exact ⟨rfl, fun _ x5 hx5 => ⟨rfl, k + 1, by omega, g1⟩⟩
/-- behind the telling -/
theorem RST_1 (hb : 0 ≤ b) (hw : RW0 K L Ls B b x y m s) (hR0 : RBh K L W ar kd n B b s TN) (h10 : 10 ≤ (s.1 65).toInt ∧ 10 + 4100 * (B / 4002) ≤ (s.1 65).toInt) (h264 : RWel s 0 [40000, 40008, 40016, 40024, 40032, 40040]) (h : RA3 K L W ar kd TN B b lo hi Ls s Ls.length u) (h0 : (u.1 8).toInt = 0) : RST K L W ar kd TN Ls n B b (u.1 65).toInt x y u ∧ RW0 K L Ls B b x y m u ∧ (s.1 65).toInt ≤ (u.1 65).toInt ∧ (u.1 65).toInt ≤ (s.1 65).toInt + (hi - lo) := by
  obtain ⟨-, fu, -, -, g⟩ := h
  obtain ⟨g1, mi, g2, g3, g4, g5⟩ := g h0
  have rows : ∀ p, ¬ p = 231 → ¬ p = 232 → ¬ p = 264 → ¬ p = 261 → u.2.1 p = s.2.1 p := fun p z1 z2 z3 z4 => RWf_r fu z1 z2 z3 z4
  have Ru := RBh_W rows (fu.1 75 (by decide) (by decide) (by decide) (by decide) (by decide)) hR0
  have hw' := RW0_W rows (fu.1 30 (by decide) (by decide) (by decide) (by decide) (by decide)) (fu.1 64 (by decide) (by decide) (by decide) (by decide) (by decide)) (fu.1 70 (by decide) (by decide) (by decide) (by decide) (by decide)) hw
  rw [List.drop_length] at g4
  have g4' : mi ≤ hi := g4
  refine ⟨⟨Ru, hw'.1, fun i t h1 => (g5 i t (List.getElem?_eq_some_iff.mp h1).1 h1).1, hw'.2.2.1, fun i c hc => ?_, by omega, hb⟩, hw', g1, by omega⟩
  have hi : i < 6 := by
    have := (List.getElem?_eq_some_iff.mp hc).1
    simpa using this
  have e := h264 i c hc
  rw [KI_p (by omega)] at e ⊢
  rw [fu.2.2.2.2 _ (by omega)]
  exact e
/-- BOUNDS -/
theorem u_t2 {mv : List Int → List Int → List Int → Int} (h : PRm K L W ar kd n lo hi TN Ls) (hS : RST K L W ar kd TN Ls n B b A x y s) (hA : A ≤ 100000) (hw : RW0 K L Ls B b x y m s) (hmv : mv = mtV ar kd (rso kd (cfO K L W TN Ls) (fsd K L Ls) (kFn K Ls) (tmd K L Ls) (tnd K L Ls) (hwd K L W Ls)) (hwd K L W Ls) (hdd K L W ar TN Ls) (tmd K L Ls) (tnd K L Ls)) (h8 : (s.1 8).toInt = 0) (hR : ∀ (x1 : Int32) (u : yS), UUr 100000 0 s u → (u.1 8).toInt = ffs (dLs K L W ar mv TN Ls).flatten → x1.toInt = 3 → R91 x1 u) : ubl_230_96 (Par d) R91 2 0 s Q := by
  obtain ⟨hAl, w263, -, -, w30, w64, w70⟩ := hw
  unfold ubl_230_96
  refine ⟨fun c1 c2 u => c1 = 2 ∧ UUr 100000 ((0 : Nat) : Int) s u ∧ ∃ k : Nat, k ≤ Ls.length ∧ c2.toInt = (k : Int) ∧ (u.1 8).toInt = ffs ((dLs K L W ar mv TN Ls).take k).flatten, ⟨rfl, ⟨WFr_rf, rfl, w70⟩, 0, Nat.zero_le _, by decide, h8⟩, ?_⟩
  rintro c1 c2 u ⟨rfl, i1, k, i2, i3, i4⟩
  have e30 : (u.1 30).toInt = b := by rw [i1.1.1 30 (by decide) (by decide) (by decide) (by decide) (by decide) (by decide) (by decide)]; exact w30
  have v263 : (u.2.1 263 (u.1 30).toInt.toNat).toInt = (Ls.length : Int) := by rw [e30, i1.1.2.2.1 263 _ (by decide)]; exact w263
  have out : (k = Ls.length ∨ ¬ (u.1 8).toInt = 0) → ub_230_120 (Par d) R91 2 c2 u Q := fun hc => by
    unfold ub_230_120
    intro _ x1 hx1
    refine hR x1 u i1 ?_ (by rw [hx1]; decide)
    rcases hc with e | e
    · rw [e, ← dLs_len (K := K) (L := L) (W := W) (ar := ar) (mv := mv) (TN := TN) (Ls := Ls), List.take_length] at i4
      exact i4
    · rw [i4] at e ⊢
      conv => rhs; rw [← List.take_append_drop k (dLs K L W ar mv TN Ls), List.flatten_append]
      rw [ffs_app, if_neg e]
  unfold ub_230_96
  intro _
  rw [v263]
  refine ⟨fun hq => out (Or.inl (by omega)), fun hq => ⟨fun z => out (Or.inr z), fun z _ x1 hx1 _ x2 hx2 _ => ?_⟩⟩
  obtain ⟨t, ht⟩ : ∃ t, Ls[k]? = some t := ⟨_, List.getElem?_eq_getElem (by omega)⟩
  have hx2' : x2.toInt = 84 * b + (k : Int) := by rw [hx2, hx1, e30, i3]
  refine Par.imp (x_231t h hS hA w64 hmv w30 ht ⟨fun h6 => ?_, fun h6 => ?_⟩ i1 z) ?_
  · rw [hx2', i1.1.2.2.1 262 _ (by decide)]
    exact ((hAl k t ht).1 h6).1
  · rw [hx2', i1.1.2.2.1 262 _ (by decide)]
    exact ((hAl k t ht).2 h6).1
  intro v4 s3 g
  refine ⟨g.1, fun _ x5 hx5 => ⟨rfl, UU_tr i1 g, k + 1, by omega, by omega, ?_⟩⟩
  rw [g.2.2.2, List.take_succ, dLs_at ht, List.flatten_append, ffs_app, ← i4, if_pos z]
  show _ = ffs (dcL K L W ar mv TN Ls k t ++ [])
  rw [List.append_nil]
end ZZW
