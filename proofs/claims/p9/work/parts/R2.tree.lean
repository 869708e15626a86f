/-! ===== the reference takes a TYPE: the tree that it makes ===== -/
/-- where the TYPE that begins there ends -/
def nxT (K L : Int → Int) (t : Int) : Int := (p_t K L 11 false (0, t)).2
/-- c trees side by side: roots z, tokens u -/
def yCh (s : yS) (f : Int → Int → Int → Prop) (nx : Int → Int) (c : Nat) (z u : Nat → Int) : Prop := (∀ i, i < c → f (z i) (z (i + 1)) (u i) ∧ u (i + 1) = nx (u i) + 1 ∧ (0 ≤ z i ∧ z i < z (i + 1))) ∧ (∀ i, i + 1 < c → (s.2.1 225 (z i).toNat).toInt = z (i + 1)) ∧ (0 < c → (s.2.1 225 (z (c - 1)).toNat).toInt = -1)
def ych (s : yS) (f : Int → Int → Int → Prop) (nx : Int → Int) (c : Nat) (x y t : Int) : Prop := ∃ z u : Nat → Int, z 0 = x ∧ z c = y ∧ u 0 = t ∧ yCh s f nx c z u
/-- the tree of the TYPE at token t: nodes from x on, ahead of y -/
def yT (K L : Int → Int) (B : Int) (s : yS) : Nat → Int → Int → Int → Prop
  | 0, _, _, _ => False
  | m + 1, x, y, t => (0 ≤ x ∧ x < y) ∧ (s.2.1 221 x.toNat).toInt = 0 ∧ (s.2.1 222 x.toNat).toInt = B + t ∧ (if K (t + 1) = 91 then (s.2.1 226 x.toNat).toInt = (NT K L (t + 1) : Int) ∧ (s.2.1 224 x.toNat).toInt = x + 1 ∧ ych s (yT K L B s m) (nxT K L) (NT K L (t + 1)) (x + 1) y (t + 2) else (s.2.1 226 x.toNat).toInt = 0 ∧ (s.2.1 224 x.toNat).toInt = -1 ∧ y = x + 1)
/-- the rows that tell a tree are the same from x on, ahead of y (but for what stands beside x) -/
def Req (x y : Int) (s s' : yS) : Prop := (∀ p i, (p = 221 ∨ p = 222 ∨ p = 224 ∨ p = 226) → x ≤ i → i < y → s'.2.1 p i.toNat = s.2.1 p i.toNat) ∧ ∀ i, x < i → i < y → s'.2.1 225 i.toNat = s.2.1 225 i.toNat
section RTR
variable {K L : Int → Int} {B n : Int} {s s' : yS}
theorem yCh_mono {f : Int → Int → Int → Prop} {nx : Int → Int} {c : Nat} {z u : Nat → Int} (h : yCh s f nx c z u) : ∀ i j, i ≤ j → j ≤ c → z i ≤ z j := by
  intro i j hij
  induction hij with
  | refl => exact fun _ => Int.le_refl _
  | @step j hij ih =>
    intro hc
    have h1 := ih (by omega)
    have h2 := (h.1 j hc).2.2
    show z i ≤ z (j + 1)
    omega
theorem Req_sub {x y x' y' : Int} (h : Req x y s s') (h1 : x ≤ x') (h2 : y' ≤ y) : Req x' y' s s' := ⟨fun p i hp i1 i2 => h.1 p i hp (by omega) (by omega), fun i i1 i2 => h.2 i (by omega) (by omega)⟩
theorem yT_eq : ∀ (m : Nat) (x y t : Int), yT K L B s m x y t → Req x y s s' → yT K L B s' m x y t
  | 0, _, _, _, h, _ => h
  | m + 1, x, y, t, h, g => by
    obtain ⟨h1, h2, h3, h4⟩ := h
    refine ⟨h1, by rw [g.1 221 x (Or.inl rfl) (Int.le_refl _) h1.2]; exact h2, by rw [g.1 222 x (Or.inr (Or.inl rfl)) (Int.le_refl _) h1.2]; exact h3, ?_⟩
    rw [g.1 226 x (Or.inr (Or.inr (Or.inr rfl))) (Int.le_refl _) h1.2, g.1 224 x (Or.inr (Or.inr (Or.inl rfl))) (Int.le_refl _) h1.2]
    by_cases hk : K (t + 1) = 91
    · rw [if_pos hk] at h4 ⊢
      obtain ⟨h5, h6, z, u, h7, h8, h9, h10⟩ := h4
      refine ⟨h5, h6, z, u, h7, h8, h9, ?_⟩
      have mo := yCh_mono h10
      have rng : ∀ i, i < NT K L (t + 1) → x < z i ∧ z (i + 1) ≤ y := fun i hi => by
        have a := mo 0 i (by omega) (by omega)
        have b := mo (i + 1) (NT K L (t + 1)) (by omega) (Nat.le_refl _)
        omega
      refine ⟨fun i hi => ?_, fun i hi => ?_, fun hc => ?_⟩
      · obtain ⟨a, b, c⟩ := h10.1 i hi
        obtain ⟨r1, r2⟩ := rng i hi
        exact ⟨yT_eq m _ _ _ a (Req_sub g (by omega) r2), b, c⟩
      · obtain ⟨r1, r2⟩ := rng i (by omega)
        rw [g.2 (z i) r1 (by have := (h10.1 i (by omega)).2.2; omega)]
        exact h10.2.1 i hi
      · obtain ⟨r1, r2⟩ := rng (NT K L (t + 1) - 1) (by omega)
        rw [g.2 (z (NT K L (t + 1) - 1)) r1 (by have := (h10.1 (NT K L (t + 1) - 1) (by omega)).2.2; omega)]
        exact h10.2.2 hc
    · rw [if_neg hk] at h4 ⊢
      exact h4
theorem yCh_one {f g : Int → Int → Int → Prop} {nx : Int → Int} {c : Nat} {z u : Nat → Int} (h : yCh s f nx c z u) (hf : ∀ i, i < c → f (z i) (z (i + 1)) (u i) → g (z i) (z (i + 1)) (u i)) (hb : ∀ i, i < c → s'.2.1 225 (z i).toNat = s.2.1 225 (z i).toNat) : yCh s' g nx c z u := by
  refine ⟨fun i hi => ⟨hf i hi (h.1 i hi).1, (h.1 i hi).2⟩, fun i hi => ?_, fun hc => ?_⟩
  · rw [hb i (by omega)]
    exact h.2.1 i hi
  · rw [hb _ (by omega)]
    exact h.2.2 hc
theorem yT_mono : ∀ (m m' : Nat) (x y t : Int), m ≤ m' → yT K L B s m x y t → yT K L B s m' x y t
  | 0, _, _, _, _, _, h => False.elim h
  | m + 1, 0, _, _, _, hm, _ => by omega
  | m + 1, m' + 1, x, y, t, hm, h => by
    obtain ⟨h1, h2, h3, h4⟩ := h
    refine ⟨h1, h2, h3, ?_⟩
    by_cases hk : K (t + 1) = 91
    · rw [if_pos hk] at h4 ⊢
      obtain ⟨h5, h6, z, u, h7, h8, h9, h10⟩ := h4
      exact ⟨h5, h6, z, u, h7, h8, h9, yCh_one h10 (fun i _ w => yT_mono m m' _ _ _ (by omega) w) (fun _ _ => rfl)⟩
    · rw [if_neg hk] at h4 ⊢
      exact h4
/-- one tree more: beside the last root its root is told -/
theorem yCh_add {f g : Int → Int → Int → Prop} {nx : Int → Int} {c : Nat} {z u : Nat → Int} {y' : Int} (h : yCh s f nx c z u) (hf : ∀ i, i < c → f (z i) (z (i + 1)) (u i) → g (z i) (z (i + 1)) (u i)) (hg : g (z c) y' (u c)) (hy : 0 ≤ z c ∧ z c < y') (hb : ∀ i, i + 1 < c → s'.2.1 225 (z i).toNat = s.2.1 225 (z i).toNat) (hl : 0 < c → (s'.2.1 225 (z (c - 1)).toNat).toInt = z c) (hn : (s'.2.1 225 (z c).toNat).toInt = -1) : yCh s' g nx (c + 1) (fun i => if i ≤ c then z i else y') (fun i => if i ≤ c then u i else nx (u c) + 1) := by
  refine ⟨fun i hi => ?_, fun i hi => ?_, fun _ => ?_⟩
  · dsimp only
    rw [if_pos (show i ≤ c by omega), if_pos (show i ≤ c by omega)]
    by_cases e : i = c
    · rw [if_neg (show ¬ i + 1 ≤ c by omega), if_neg (show ¬ i + 1 ≤ c by omega), e]
      exact ⟨hg, rfl, hy⟩
    · rw [if_pos (show i + 1 ≤ c by omega), if_pos (show i + 1 ≤ c by omega)]
      have := h.1 i (by omega)
      exact ⟨hf i (by omega) this.1, this.2⟩
  · dsimp only
    rw [if_pos (show i ≤ c by omega), if_pos (show i + 1 ≤ c by omega)]
    by_cases e : i + 1 = c
    · have := hl (by omega)
      rw [show c - 1 = i by omega] at this
      rw [this, e]
    · rw [hb i (by omega)]
      exact h.2.1 i (by omega)
  · dsimp only
    rw [if_pos (show c + 1 - 1 ≤ c by omega), show c + 1 - 1 = c by omega]
    exact hn
/-- a TYPE one too many -/
theorem pt_b {σ : RSt} : ∀ m : Nat, p_t K L m false (if t_k K 1 σ = true then (5 + 16 * L σ.2, σ.2) else σ) = p_t K L m true σ := by
  have key : ∀ b, e_f K L b (if t_k K 1 σ = true then (5 + 16 * L σ.2, σ.2) else σ) = e_f K L true σ := by
    intro b
    by_cases hk : t_k K 1 σ = true
    · obtain ⟨k0, k1⟩ := tk_t hk
      rw [if_pos hk, ef_f (by dsimp only; omega)]
      unfold e_f
      rw [if_pos k0, if_pos k1, if_pos rfl]
    · rw [if_neg hk]
      unfold e_f
      by_cases h0 : σ.1 = 0
      · have h1 : ¬ K σ.2 = 1 := fun w => hk (decide_eq_true ⟨h0, w⟩)
        rw [if_pos h0, if_neg h1, if_pos h0, if_neg h1]
      · rw [if_neg h0, if_neg h0]
  intro m
  cases m with
  | zero => exact key true
  | succ m => rw [p_t, p_t, key false]
end RTR
/-! the nodes -/
def nRw (p : Nat) : Prop := p = 221 ∨ p = 222 ∨ p = 224 ∨ p = 225 ∨ p = 226 ∨ p = 227 ∨ p = 228 ∨ p = 229 ∨ p = 230
/-- what the taking of a TYPE may write: nodes from N on -/
def TFx (N : Int) (s s' : yS) : Prop := (∀ k, ¬ k = 7 → ¬ k = 8 → ¬ k = 26 → ¬ k = 27 → ¬ k = 28 → s'.1 k = s.1 k) ∧ s'.2.2 = s.2.2 ∧ (∀ p i : Nat, (¬ nRw p ∨ (i : Int) < N) → s'.2.1 p i = s.2.1 p i) ∧ N ≤ (s'.1 26).toInt
section RTF
variable {d : Nat} {K L : Int → Int} {B n N N' : Int} {s s' s'' : yS} {σ : RSt} {a1 x : Int32}
theorem TFx_tr (hN : N ≤ N') (h : TFx N s s') (g : TFx N' s' s'') : TFx N s s'' := ⟨fun k h1 h2 h3 h4 h5 => (g.1 k h1 h2 h3 h4 h5).trans (h.1 k h1 h2 h3 h4 h5), g.2.1.trans h.2.1, fun p i w => (g.2.2.1 p i (by rcases w with w | w; exact Or.inl w; exact Or.inr (by omega))).trans (h.2.2.1 p i w), by have := g.2.2.2; omega⟩
theorem TFx_78 (h : R78 s s') (hN : N ≤ (s.1 26).toInt) : TFx N s s' := ⟨fun k h1 h2 _ _ _ => h.2 k h1 h2, by rw [h.1], fun p i _ => by rw [h.1], by rw [h.2 26 (by decide) (by decide)]; exact hN⟩
theorem TFx_sf {k : Nat} (hk : k = 7 ∨ k = 8 ∨ k = 27 ∨ k = 28) (hN : N ≤ (s.1 26).toInt) : TFx N s (sf s k x) := ⟨fun q h1 h2 h3 h4 h5 => by rw [sfr_1, if_neg (by omega)], rfl, fun p i _ => rfl, by rw [sfr_1, if_neg (by omega)]; exact hN⟩
theorem sa_1r {p i : Nat} : (sa s p i x).1 = s.1 := rfl
theorem sa_21 {p i q j : Nat} : (sa s p i x).2.1 q j = if q = p ∧ j = i then x else s.2.1 q j := by
  show (if q = p then upd (s.2.1 p) i x else s.2.1 q) j = _
  by_cases h : q = p
  · subst h
    rw [if_pos rfl]
    unfold upd
    by_cases h2 : j = i
    · rw [if_pos h2, if_pos ⟨rfl, h2⟩]
    · rw [if_neg h2, if_neg (fun w => h2 w.2)]
  · rw [if_neg h, if_neg (fun w => h w.1)]
theorem TFx_sa {p i : Nat} (hp : nRw p) (hi : N ≤ (i : Int)) (hN : N ≤ (s.1 26).toInt) : TFx N s (sa s p i x) := ⟨fun k _ _ _ _ _ => rfl, rfl, fun q j w => by
  rw [sa_21, if_neg (fun e => ?_)]
  rcases w with w | w
  · rw [e.1] at w
    exact w hp
  · omega, hN⟩
theorem TFx_tk (h : TFx N s s') (g : RTk K L B n s) : RTk K L B n s' := RTk_eq (funext fun i => h.2.2.1 215 i (Or.inl (by unfold nRw; omega))) (funext fun i => h.2.2.1 216 i (Or.inl (by unfold nRw; omega))) (funext fun i => h.2.2.1 217 i (Or.inl (by unfold nRw; omega))) g
/-- a node made -/
def nNw (N : Int) (k : Int) (s s' : yS) : Prop := (s'.2.1 221 N.toNat).toInt = k ∧ s'.2.1 222 N.toNat = s.1 7 ∧ (s'.2.1 224 N.toNat).toInt = -1 ∧ (s'.2.1 225 N.toNat).toInt = -1 ∧ (s'.2.1 226 N.toNat).toInt = 0 ∧ (s'.2.1 227 N.toNat).toInt = -1 ∧ (s'.2.1 228 N.toNat).toInt = -1 ∧ (s'.2.1 229 N.toNat).toInt = -1 ∧ (s'.2.1 230 N.toNat).toInt = 0
set_option maxRecDepth 20000 in
theorem x_171 : Par d 171 [.ref 213, .int a1] s (fun v s' => ∃ r : Int32, v = some (.int r) ∧ r.toInt = (s.1 26).toInt ∧ 0 ≤ (s.1 26).toInt ∧ (s'.1 26).toInt = (s.1 26).toInt + 1 ∧ TFx (s.1 26).toInt s s' ∧ s'.1 7 = s.1 7 ∧ s'.1 8 = s.1 8 ∧ s'.1 27 = s.1 27 ∧ nNw (s.1 26).toInt a1.toInt s s') := by
  cases d with
  | zero => exact Par_0
  | succ d =>
    refine pb_171 ?_
    unfold ub_171_0
    intro h0 s1 hs1
    have e1 : s1.1 = s.1 := by rw [hs1]; rfl
    rw [e1]
    intro _ s2 hs2
    have e2 : s2.1 = s.1 := by rw [hs2, ← e1]; rfl
    rw [e2]
    intro _ s3 hs3
    have e3 : s3.1 = s.1 := by rw [hs3, ← e2]; rfl
    rw [e3]
    intro _ s4 hs4
    have e4 : s4.1 = s.1 := by rw [hs4, ← e3]; rfl
    rw [e4]
    intro _ s5 hs5
    have e5 : s5.1 = s.1 := by rw [hs5, ← e4]; rfl
    rw [e5]
    intro _ s6 hs6
    have e6 : s6.1 = s.1 := by rw [hs6, ← e5]; rfl
    rw [e6]
    intro _ s7 hs7
    have e7 : s7.1 = s.1 := by rw [hs7, ← e6]; rfl
    rw [e7]
    intro _ s8 hs8
    have e8 : s8.1 = s.1 := by rw [hs8, ← e7]; rfl
    rw [e8]
    intro _ s9 hs9
    have e9 : s9.1 = s.1 := by rw [hs9, ← e8]; rfl
    rw [e9]
    intro _ x10 hx10 s11 hs11 _ x12 hx12
    have e26 : (s11.1 26).toInt = (s.1 26).toInt + 1 := by rw [hs11, sfr_1, if_pos rfl, hx10]
    have hz : (((s.1 26).toInt.toNat : Nat) : Int) = (s.1 26).toInt := Int.toNat_of_nonneg h0.1
    have rw_ : ∀ q j, s11.2.1 q j = if q = 230 ∧ j = (s.1 26).toInt.toNat then 0 else if q = 229 ∧ j = (s.1 26).toInt.toNat then -1 else if q = 228 ∧ j = (s.1 26).toInt.toNat then -1 else if q = 227 ∧ j = (s.1 26).toInt.toNat then -1 else if q = 226 ∧ j = (s.1 26).toInt.toNat then 0 else if q = 225 ∧ j = (s.1 26).toInt.toNat then -1 else if q = 224 ∧ j = (s.1 26).toInt.toNat then -1 else if q = 222 ∧ j = (s.1 26).toInt.toNat then s.1 7 else if q = 221 ∧ j = (s.1 26).toInt.toNat then a1 else s.2.1 q j := by
      intro q j
      rw [hs11, sfr_2, hs9, sa_21, hs8, sa_21, hs7, sa_21, hs6, sa_21, hs5, sa_21, hs4, sa_21, hs3, sa_21, hs2, sa_21, hs1, sa_21]
    refine ⟨x12, rfl, by omega, h0.1, e26, ⟨fun k _ _ h3 _ _ => ?_, ?_, fun p i w => ?_, by omega⟩, ?_, ?_, ?_, ?_⟩
    · rw [hs11, sfr_1, if_neg h3, e9]
    · rw [hs11, sfr_2, hs9, hs8, hs7, hs6, hs5, hs4, hs3, hs2, hs1]
      rfl
    · rw [rw_]
      unfold nRw at w
      have hne : ∀ q, (q = 221 ∨ q = 222 ∨ q = 224 ∨ q = 225 ∨ q = 226 ∨ q = 227 ∨ q = 228 ∨ q = 229 ∨ q = 230) → ¬ (p = q ∧ i = (s.1 26).toInt.toNat) := fun q hq e => by omega
      rw [if_neg (hne 230 (by decide)), if_neg (hne 229 (by decide)), if_neg (hne 228 (by decide)), if_neg (hne 227 (by decide)), if_neg (hne 226 (by decide)), if_neg (hne 225 (by decide)), if_neg (hne 224 (by decide)), if_neg (hne 222 (by decide)), if_neg (hne 221 (by decide))]
    · rw [hs11, sfr_1, if_neg (by decide), e9]
    · rw [hs11, sfr_1, if_neg (by decide), e9]
    · rw [hs11, sfr_1, if_neg (by decide), e9]
    · exact ⟨by rw [rw_, if_neg (by omega), if_neg (by omega), if_neg (by omega), if_neg (by omega), if_neg (by omega), if_neg (by omega), if_neg (by omega), if_neg (by omega), if_pos ⟨rfl, rfl⟩], by rw [rw_, if_neg (by omega), if_neg (by omega), if_neg (by omega), if_neg (by omega), if_neg (by omega), if_neg (by omega), if_neg (by omega), if_pos ⟨rfl, rfl⟩], by rw [rw_, if_neg (by omega), if_neg (by omega), if_neg (by omega), if_neg (by omega), if_neg (by omega), if_neg (by omega), if_pos ⟨rfl, rfl⟩]; decide, by rw [rw_, if_neg (by omega), if_neg (by omega), if_neg (by omega), if_neg (by omega), if_neg (by omega), if_pos ⟨rfl, rfl⟩]; decide, by rw [rw_, if_neg (by omega), if_neg (by omega), if_neg (by omega), if_neg (by omega), if_pos ⟨rfl, rfl⟩]; decide, by rw [rw_, if_neg (by omega), if_neg (by omega), if_neg (by omega), if_pos ⟨rfl, rfl⟩]; decide, by rw [rw_, if_neg (by omega), if_neg (by omega), if_pos ⟨rfl, rfl⟩]; decide, by rw [rw_, if_neg (by omega), if_pos ⟨rfl, rfl⟩]; decide, by rw [rw_, if_pos ⟨rfl, rfl⟩]; decide⟩
/-- within -/
def w_f (K L : Int → Int) (b : Bool) (σ : RSt) : RSt := if σ.1 = 0 then (if K σ.2 = 1 then (if b = true then (5 + 16 * L σ.2, σ.2) else σ) else (1 + 16 * L σ.2, σ.2)) else σ
theorem x_172 (hT : RTk K L B n s) (h : RQr B n σ s) (ha : (a1.toInt = 1 ∧ t_k K 1 σ = true) ∨ (a1.toInt = 0 ∧ t_k K 1 σ = false)) : Par d 172 [.ref 213, .int a1] s (fun v s' => v = none ∧ s'.2 = s.2 ∧ (∀ k, ¬ k = 8 → ¬ k = 27 → s'.1 k = s.1 k) ∧ (s'.1 27).toInt = (s.1 27).toInt + 1 ∧ RQr B n (w_f K L (decide ((s.1 27).toInt = 10)) σ) s') := by
  cases d with
  | zero => exact Par_0
  | succ d =>
    refine pb_172 ?_
    have fin : ∀ (t : yS) (τ : RSt), R78 s t → t.1 7 = s.1 7 → RQr B n τ t → τ = w_f K L (decide ((s.1 27).toInt = 10)) σ → ub_172_17 (Par d) a1 t (fun v s' => v = none ∧ s'.2 = s.2 ∧ (∀ k, ¬ k = 8 → ¬ k = 27 → s'.1 k = s.1 k) ∧ (s'.1 27).toInt = (s.1 27).toInt + 1 ∧ RQr B n (w_f K L (decide ((s.1 27).toInt = 10)) σ) s') := by
      intro t τ t1 t2 t3 t4
      unfold ub_172_17
      intro _ x1 hx1 s2 hs2
      have e27 : t.1 27 = s.1 27 := t1.2 27 (by decide) (by decide)
      rw [hs2]
      refine ⟨rfl, by rw [sfr_2, t1.1], fun k k1 k2 => ?_, ?_, ?_⟩
      · rw [sfr_1, if_neg k2]
        by_cases e : k = 7
        · rw [e, t2]
        · exact t1.2 k e k1
      · rw [sfr_1, if_pos rfl, hx1, e27]
      · rw [← t4]
        exact ⟨by rw [sfr_1, if_neg (by decide)]; exact t3.1, fun w => by rw [sfr_1, if_neg (by decide)]; exact t3.2 w⟩
    unfold ub_172_0
    refine ⟨fun w => ⟨fun w2 => ?_, fun w2 => ?_⟩, fun w => ?_⟩
    · rcases ha with ⟨-, hk⟩ | ⟨hk, -⟩
      · obtain ⟨k0, k1⟩ := tk_t hk
        refine fin s σ R78_rf rfl h ?_
        unfold w_f
        rw [if_pos k0, if_pos k1, decide_eq_false w2, if_neg (by decide)]
      · omega
    · rcases ha with ⟨-, hk⟩ | ⟨hk, -⟩
      · obtain ⟨k0, k1⟩ := tk_t hk
        refine Par.imp (x_163h hT h (w := 5) (by decide) (by decide) (fun _ => rfl)) ?_
        rintro v s1 ⟨rfl, p1, p2, p3⟩
        refine ⟨rfl, fin s1 _ p1 p2 p3 ?_⟩
        unfold w_f
        rw [if_pos k0, if_pos k0, if_pos k1, decide_eq_true w2, if_pos rfl]
      · omega
    · rcases ha with ⟨hk, -⟩ | ⟨-, hk⟩
      · omega
      · refine Par.imp (x_163h hT h (w := 1) (by decide) (by decide) (fun _ => rfl)) ?_
        rintro v s1 ⟨rfl, p1, p2, p3⟩
        refine ⟨rfl, fin s1 _ p1 p2 p3 ?_⟩
        unfold w_f
        by_cases h0 : σ.1 = 0
        · rw [if_pos h0, if_pos h0, if_neg (fun q => by rw [show t_k K 1 σ = true from decide_eq_true ⟨h0, q⟩] at hk; cases hk)]
        · rw [if_neg h0, if_neg h0]
end RTF
