/-! ===== the tables: frames and small steps ===== -/
def tR : List Nat := [234, 235, 236, 239, 242, 243]
def t6 : List Nat := [237, 238, 240, 241]
def hR : List Nat := [244, 245, 248, 251]
def h6 : List Nat := [246, 247, 249, 250]
def fR : List Nat := [253, 254, 255, 256, 257, 258]
/-- a bank's share of a row -/
def zl (p : Nat) : Nat := if p ∈ ndB then 4002 else if p ∈ tR then 24 else if p ∈ t6 then 144 else if p ∈ hR then 204 else if p ∈ h6 then 1224 else if p ∈ fR then 60 else if p = 262 then 84 else if p ∈ [233, 252, 259, 263] then 1 else 0
def FL : List Nat := [7, 8, 26, 27, 28, 42]
/-- what reading leaves: rows of bank b from c p on may change -/
def NF (b : Nat) (c : Nat → Nat) (s s' : yS) : Prop := (∀ k, k ∉ FL → s'.1 k = s.1 k) ∧ (∀ p i, ¬ (c p ≤ i ∧ i < zl p * (b + 1)) → s'.2.1 p i = s.2.1 p i) ∧ s'.2.2 = s.2.2
section NFS
variable {b : Nat} {c c' : Nat → Nat} {s s' s'' : yS}
theorem NF_rf : NF b c s s := ⟨fun _ _ => rfl, fun _ _ _ => rfl, rfl⟩
theorem NF_tr (h : NF b c s s') (h' : NF b c' s' s'') (hc : ∀ p, c p ≤ c' p) : NF b c s s'' := ⟨fun k hk => (h'.1 k hk).trans (h.1 k hk), fun p i hp => (h'.2.1 p i (fun q => hp ⟨Nat.le_trans (hc p) q.1, q.2⟩)).trans (h.2.1 p i hp), h'.2.2.trans h.2.2⟩
theorem NF_sf {k : Nat} {v : Int32} (h : NF b c s s') (hk : k ∈ FL) : NF b c s (sf s' k v) := ⟨fun j hj => by
  rw [sf_1, if_neg (fun e => hj (by rw [e]; exact hk))]
  exact h.1 j hj, h.2.1, h.2.2⟩
theorem NF_sa {p i : Nat} {v : Int32} (h : NF b c s s') (hi : c p ≤ i ∧ i < zl p * (b + 1)) : NF b c s (sa s' p i v) := ⟨h.1, fun q j hq => by
  rw [sa_2, if_neg (fun e => hq (by rw [e.1, e.2]; exact hi))]
  exact h.2.1 q j hq, h.2.2⟩
theorem NF_fr {N : Nat} (h : Fr N s s') (hb : N / 4002 = b) (hc : ∀ p ∈ ndB, c p ≤ N) : NF b c s s' := by
  refine ⟨fun k hk => h.1 k (fun q => hk ?_), fun p i hp => h.2.1 p i (fun q => hp ⟨Nat.le_trans (hc p q.2.2) q.1, ?_⟩), h.2.2⟩
  · revert q
    unfold FL
    grind
  · have e : zl p = 4002 := by unfold zl; rw [if_pos q.2.2]
    rw [e]
    have h1 := q.2.1
    rw [hb] at h1
    omega
theorem NF_row {p : Nat} (h : NF b c s s') (hp : zl p = 0) : s'.2.1 p = s.2.1 p := by
  funext i
  exact h.2.1 p i (fun q => by rw [hp] at q; omega)
end NFS
/-- nodes ahead of N, and the tokens, the same -/
def ND (N : Nat) (s s' : yS) : Prop := (∀ q ∈ ndB, ∀ x, x < N → s'.2.1 q x = s.2.1 q x) ∧ s'.2.1 215 = s.2.1 215 ∧ s'.2.1 217 = s.2.1 217
section NDS
variable {N N' : Nat} {s s' s'' : yS}
theorem ND_rf : ND N s s := ⟨fun _ _ _ _ => rfl, rfl, rfl⟩
theorem ND_tr (h : ND N s s') (h' : ND N' s' s'') (hN : N ≤ N') : ND N s s'' := ⟨fun q hq x hx => (h'.1 q hq x (by omega)).trans (h.1 q hq x hx), h'.2.1.trans h.2.1, h'.2.2.trans h.2.2⟩
theorem ND_fr (h : Fr N s s') : ND N s s' := ⟨fun _ _ _ hx => Fr_at h hx, Fr_row h (by decide), Fr_row h (by decide)⟩
theorem ND_sf {k : Nat} {v : Int32} (h : ND N s s') : ND N s (sf s' k v) := h
theorem ND_sa {p i : Nat} {v : Int32} (h : ND N s s') (hp : p ∉ 215 :: 217 :: ndB) : ND N s (sa s' p i v) := by
  refine ⟨fun q hq x hx => ?_, ?_, ?_⟩
  · rw [sa_2, if_neg (fun e => hp (by rw [← e.1]; exact List.mem_cons_of_mem _ (List.mem_cons_of_mem _ hq)))]
    exact h.1 q hq x hx
  · rw [← h.2.1]
    funext j
    rw [sa_2, if_neg (fun e => hp (by rw [← e.1]; decide))]
  · rw [← h.2.2]
    funext j
    rw [sa_2, if_neg (fun e => hp (by rw [← e.1]; decide))]
theorem ND_nf {b : Nat} {c : Nat → Nat} (h : NF b c s s') (hc : ∀ p ∈ ndB, N ≤ c p) : ND N s s' := ⟨fun q hq x hx => h.2.1 q x (fun w => by have := hc q hq; omega), NF_row h (by decide), NF_row h (by decide)⟩
theorem ND_SR {x : Nat} (h : ND N s s') (hx : x < N) : SR s s' x ∧ s'.2.1 225 x = s.2.1 225 x ∧ s'.2.1 228 x = s.2.1 228 x := ⟨⟨h.1 _ (by decide) x hx, h.1 _ (by decide) x hx, h.1 _ (by decide) x hx, h.1 _ (by decide) x hx, h.1 _ (by decide) x hx, h.1 _ (by decide) x hx, fun _ => h.1 _ (by decide) x hx, fun _ => h.1 _ (by decide) x hx⟩, h.1 _ (by decide) x hx, h.1 _ (by decide) x hx⟩
end NDS
/-- the TYPE of row p at i; own: whose each node is -/
def YS (own : Nat → Nat × Nat) (b n N : Nat) (s : yS) (p i : Nat) : Prop := ∃ y h : Nat, (s.2.1 p i).toInt = (y : Int) ∧ 4002 * b ≤ y ∧ h ≤ N ∧ isY b n s 11 h y ∧ ∀ x, y ≤ x → x < h → own x = (p, i)
def ES (own : Nat → Nat × Nat) (b n N : Nat) (s : yS) (p i : Nat) : Prop := ∃ e l h : Nat, (s.2.1 p i).toInt = (e : Int) ∧ 4002 * b ≤ l ∧ h ≤ N ∧ isE b n s 11 l h e ∧ ∀ x, l ≤ x → x < h → own x = (p, i)
section YSS
variable {own own' : Nat → Nat × Nat} {b n N N' : Nat} {s s' : yS} {p i : Nat}
theorem YS_eq (hd : ND N s s') (hc : s'.2.1 p i = s.2.1 p i) (ho : ∀ x, x < N → own' x = own x) (hN : N ≤ N') (h : YS own b n N s p i) : YS own' b n N' s' p i := by
  obtain ⟨y, h, h1, h2, h3, h4, h5⟩ := h
  refine ⟨y, h, by rw [hc]; exact h1, h2, by omega, isY_eq2 hd.2.1 hd.2.2 (fun x x1 x2 => ?_) h4, fun x x1 x2 => by rw [ho x (by omega)]; exact h5 x x1 x2⟩
  have := ND_SR hd (x := x) (by omega)
  exact ⟨this.1, fun _ => this.2.1⟩
theorem ES_eq (hd : ND N s s') (hc : s'.2.1 p i = s.2.1 p i) (ho : ∀ x, x < N → own' x = own x) (hN : N ≤ N') (h : ES own b n N s p i) : ES own' b n N' s' p i := by
  obtain ⟨e, l, h, h1, h2, h3, h4, h5⟩ := h
  refine ⟨e, l, h, by rw [hc]; exact h1, h2, by omega, isE_eq hd.2.1 hd.2.2 11 l h e (fun x x1 x2 => ?_) h4, fun x x1 x2 => by rw [ho x (by omega)]; exact h5 x x1 x2⟩
  have := ND_SR hd (x := x) (by omega)
  exact ⟨this.1, fun _ => this.2⟩
end YSS
/-- the reader between TYPES; a fault's wake: c tokens -/
def TS (b n W : Nat) (δ c : Int) (s : yS) : Prop := Lx b n W s ∧ Rd b n s ∧ b < 2 ∧ (s.1 30).toInt = (b : Int) ∧ 4002 * (b : Int) ≤ (s.1 26).toInt ∧ ((s.1 8).toInt = 0 → 3 * ((s.1 26).toInt - 4002 * (b : Int)) + δ ≤ 2 * ((s.1 7).toInt - 4002 * (b : Int)) ∧ 4 * (cm b s : Int) ≤ (s.1 7).toInt - 4002 * (b : Int)) ∧ (¬ (s.1 8).toInt = 0 → (s.1 26).toInt ≤ 4002 * (b : Int) + 2760 ∧ (s.1 7).toInt ≤ 8100 + c)
section TSS
variable {d b n W : Nat} {δ c : Int} {s : yS}
theorem TS_mo {δ' c' : Int} (h : TS b n W δ c s) (hδ : δ' ≤ δ) (hc : c ≤ c') : TS b n W δ' c' s := by
  obtain ⟨h1, h2, h3, h4, h5, h6, h7⟩ := h
  exact ⟨h1, h2, h3, h4, h5, fun q => by have := h6 q; omega, fun q => by have := h7 q; omega⟩
/-- without a fault c is nothing -/
theorem TS_c {c' : Int} (h : TS b n W δ c s) (hf : (s.1 8).toInt = 0) : TS b n W δ c' s := by
  obtain ⟨h1, h2, h3, h4, h5, h6, h7⟩ := h
  exact ⟨h1, h2, h3, h4, h5, h6, fun q => absurd hf q⟩
theorem TS_d {δ' : Int} (h : TS b n W δ c s) (hf : ¬ (s.1 8).toInt = 0) : TS b n W δ' c s := by
  obtain ⟨h1, h2, h3, h4, h5, h6, h7⟩ := h
  exact ⟨h1, h2, h3, h4, h5, fun q => absurd q hf, h7⟩
theorem TS_N (h : TS b n W δ c s) (hδ : 0 ≤ δ) : (s.1 26).toInt ≤ 4002 * (b : Int) + 2760 := by
  obtain ⟨h1, h2, h3, h4, h5, h6, h7⟩ := h
  by_cases q : (s.1 8).toInt = 0
  · have a1 := h6 q
    have a2 := h2.2.2.2.2 q
    have a3 := h1.2.1
    omega
  · exact (h7 q).1
theorem TS_dv (h : TS b n W δ c s) (hδ : 0 ≤ δ) : (s.1 26).toInt.toNat / 4002 = b := dvb h.2.2.2.2.1 (by have := TS_N h hδ; omega)
theorem TS_A (h : TS b n W δ c s) (hc : 0 ≤ c ∧ c ≤ 1000) : (s.1 7).toInt ≤ 9100 := by
  obtain ⟨h1, h2, h3, h4, h5, h6, h7⟩ := h
  by_cases q : (s.1 8).toInt = 0
  · have a2 := h2.2.2.2.2 q
    have a3 := h1.2.1
    omega
  · have := (h7 q).2
    omega
theorem TS_27 {v : Int32} (h : TS b n W δ c s) : TS b n W δ c (sf s 27 v) := h
theorem TS_sa {p i : Nat} {v : Int32} (h : TS b n W δ c s) (hp : p ∉ [215, 216, 217, 221]) : TS b n W δ c (sa s p i v) := by
  have e : cm b (sa s p i v) = cm b s := cm_sa (fun e => hp (by rw [e]; decide))
  obtain ⟨h1, h2⟩ := h
  refine ⟨Lx_eq h1 ?_ ?_ ?_, by rw [e]; exact h2⟩ <;> funext j <;> rw [sa_2, if_neg (fun e => hp (by rw [← e.1]; decide))]
theorem TS_ft {δ' c' : Int} {x : Int32} (h : TS b n W δ c s) (hδ : 0 ≤ δ) (hf : (s.1 8).toInt = 0) (h1 : 1 ≤ x.toInt) (h2 : x.toInt ≤ 64015) (hc : 0 ≤ c') : TS b n W δ' c' (sf s 8 x) := by
  have hN := TS_N h hδ
  obtain ⟨k1, k2, k3, k4, k5, k6, k7⟩ := h
  have a2 := k2.2.2.2.2 hf
  have a3 := k1.2.1
  exact ⟨k1, Rd_ft k2 h1 h2, k3, k4, k5, fun q => absurd (show x.toInt = 0 from q) (by omega), fun _ => ⟨hN, by show (s.1 7).toInt ≤ _; omega⟩⟩
theorem TS_at {c' : Int} {x : Int32} (h : TS b n W δ c s) (hf : (s.1 8).toInt = 0) (hx : x.toInt = (s.1 7).toInt + 1) (hl : (s.1 7).toInt < 4002 * (b : Int) + n) : TS b n W (δ + 2) c' (sf s 7 x) := by
  obtain ⟨k1, k2, k3, k4, k5, k6, k7⟩ := h
  refine ⟨k1, Rd_at k2 hx hl k1.1 k1.2.1, k3, k4, k5, fun _ => ?_, fun q => absurd hf q⟩
  have := k6 hf
  show (3 * ((s.1 26).toInt - _) + _ ≤ 2 * (x.toInt - _)) ∧ (4 * (cm b s : Int) ≤ x.toInt - _)
  omega
theorem sf_id2 (s : yS) : sf (sf s 8 (s.1 8)) 7 (s.1 7) = s := by
  rw [sf_id, sf_id]
theorem ts_163 {w t : Int32} (h : TS b n W δ c s) (hδ : 0 ≤ δ) (hw : 1 ≤ w.toInt ∧ w.toInt ≤ 15) (hf : (s.1 8).toInt = 0) (ht : 4002 * (b : Int) ≤ t.toInt ∧ t.toInt ≤ 4002 * (b : Int) + n) : Tot (d + 1) 163 [.ref 213, .int w, .int t] s (fun v s' => v = none ∧ ∃ y : Int32, s' = sf s 8 y ∧ ¬ y.toInt = 0 ∧ ∀ δ' c', 0 ≤ c' → TS b n W δ' c' s') := by
  refine Tot.imp (s_163 h.1 hw (fun _ => ht)) ?_
  rintro v s' ⟨rfl, -, g⟩
  obtain ⟨y, y1, y2, rfl⟩ := g hf
  exact ⟨rfl, y, rfl, by omega, fun δ' c' hc => TS_ft h hδ hf y1 y2 hc⟩
theorem ts_167 {ch : Int32} (h : TS b n W δ c s) (hδ : 0 ≤ δ) (hc : 0 ≤ c) : Tot (d + 2) 167 [.ref 213, .int ch] s (fun v s' => v = none ∧ ∃ x y : Int32, s' = sf (sf s 8 y) 7 x ∧ TS b n W (δ + 2) c s' ∧ (s.1 7).toInt ≤ x.toInt ∧ ((s'.1 8).toInt = 0 → sgAt s ch.toInt ∧ x.toInt = (s.1 7).toInt + 1)) := by
  refine Tot.imp (s_167 h.1 h.2.1) ?_
  rintro v s' ⟨rfl, g⟩
  refine ⟨rfl, ?_⟩
  rcases g with ⟨g1, x, g2, g3, rfl⟩ | ⟨g1, g2, g3⟩
  · exact ⟨x, s.1 8, by rw [sf_id], TS_at h g1.1 g2 g3, by omega, fun _ => ⟨g1, g2⟩⟩
  · by_cases q : (s.1 8).toInt = 0
    · obtain ⟨y, y1, y2, rfl⟩ := g3 q
      refine ⟨s.1 7, y, ?_, TS_ft h hδ q y1 y2 hc, Int.le_refl _, fun q2 => absurd (show y.toInt = 0 from q2) (by omega)⟩
      rw [show s.1 7 = (sf s 8 y).1 7 from rfl, sf_id]
    · rw [g2 q]
      exact ⟨s.1 7, s.1 8, (sf_id2 s).symm, TS_d h q, Int.le_refl _, fun q2 => absurd q2 q⟩
theorem ts_168 {ch : Int32} (h : TS b n W δ c s) : Tot (d + 2) 168 [.ref 213, .int ch] s (fun v s' => ∃ r : Int32, v = some (.int r) ∧ ((r.toInt = 1 ∧ sgAt s ch.toInt ∧ ∃ x : Int32, x.toInt = (s.1 7).toInt + 1 ∧ s' = sf s 7 x ∧ TS b n W (δ + 2) c s') ∨ (r.toInt = 0 ∧ ¬ sgAt s ch.toInt ∧ s' = s))) := by
  refine Tot.imp (s_168 h.1 h.2.1) ?_
  rintro v s' ⟨r, rfl, g⟩
  refine ⟨r, rfl, ?_⟩
  rcases g with ⟨g1, g2, x, g3, g4, rfl⟩ | g
  · exact Or.inl ⟨g1, g2, x, g3, rfl, TS_at h g2.1 g3 g4⟩
  · exact Or.inr g
theorem ts_169 {ch : Int32} (h : TS b n W δ c s) (hδ : 0 ≤ δ) (hc : 0 ≤ c) : Tot (d + 2) 169 [.ref 213, .int ch] s (fun v s' => v = none ∧ ∃ x y : Int32, s' = sf (sf s 8 y) 7 x ∧ TS b n W (δ + 2) c s' ∧ (s.1 7).toInt ≤ x.toInt ∧ ((s'.1 8).toInt = 0 → (s.1 8).toInt = 0 ∧ x.toInt = (s.1 7).toInt + 1)) := by
  refine Tot.imp (s_169 h.1 h.2.1) ?_
  rintro v s' ⟨rfl, g⟩
  refine ⟨rfl, ?_⟩
  rcases g with ⟨g1, -, -, x, g2, g3, rfl⟩ | ⟨g2, g3⟩
  · exact ⟨x, s.1 8, by rw [sf_id], TS_at h g1 g2 g3, by omega, fun _ => ⟨g1, g2⟩⟩
  · by_cases q : (s.1 8).toInt = 0
    · obtain ⟨y, y1, y2, rfl⟩ := g3 q
      refine ⟨s.1 7, y, ?_, TS_ft h hδ q y1 y2 hc, Int.le_refl _, fun q2 => absurd (show y.toInt = 0 from q2) (by omega)⟩
      rw [show s.1 7 = (sf s 8 y).1 7 from rfl, sf_id]
    · rw [g2 q]
      exact ⟨s.1 7, s.1 8, (sf_id2 s).symm, TS_d h q, Int.le_refl _, fun q2 => absurd q2 q⟩
theorem ts_170 (h : TS b n W δ c s) (hδ : 0 ≤ δ) (hc : 0 ≤ c ∧ c ≤ 900) : Tot (d + 2) 170 [.ref 213] s (fun v s' => v = some (.int (s.1 7)) ∧ ∃ x y : Int32, s' = sf (sf s 8 y) 7 x ∧ TS b n W (δ + 2) (c + 1) s' ∧ x.toInt = (s.1 7).toInt + 1 ∧ ((s'.1 8).toInt = 0 → nmAt s ∧ tkN b n s (s.1 7).toInt)) := by
  have hA := TS_A h (by omega)
  refine Tot.imp (s_170 h.1 h.2.1 (by omega)) ?_
  rintro v s' ⟨rfl, g⟩
  refine ⟨rfl, ?_⟩
  rcases g with ⟨g1, x, g2, g3, rfl⟩ | ⟨g1, x, y, g2, rfl, g3, g4⟩
  · have := h.2.1.2.2.2.2 g1.1
    exact ⟨x, s.1 8, by rw [sf_id], TS_at h g1.1 g2 g3, g2, fun _ => ⟨g1, this.1, g3, g1.2.1, g1.2.2⟩⟩
  · have y0 : ¬ y.toInt = 0 := by
      by_cases q : (s.1 8).toInt = 0
      · have := g4 q
        omega
      · rw [g3 q]
        exact q
    have y1 : 0 ≤ y.toInt ∧ y.toInt ≤ 70000 := by
      by_cases q : (s.1 8).toInt = 0
      · have := g4 q
        omega
      · rw [g3 q]
        exact ⟨h.2.1.1, h.2.1.2.1⟩
    have hN := TS_N h hδ
    refine ⟨x, y, rfl, ⟨h.1, ⟨y1.1, y1.2, by show 0 ≤ x.toInt; have := h.2.1.2.2.1; omega, by show x.toInt ≤ 13000; omega, fun q => absurd q y0⟩, h.2.2.1, h.2.2.2.1, h.2.2.2.2.1, fun q => absurd q y0, fun _ => ⟨hN, ?_⟩⟩, g2, fun q => absurd q y0⟩
    show x.toInt ≤ _
    by_cases q : (s.1 8).toInt = 0
    · have a2 := h.2.1.2.2.2.2 q
      have a3 := h.1.2.1
      have := h.2.2.1
      omega
    · have := (h.2.2.2.2.2.2 q).2
      omega
/-- takeType between TYPES -/
theorem ts_173 (h : TS b n W δ c s) (hδ : 1 ≤ δ) (hf : (s.1 8).toInt = 0) (hD : (s.1 27).toInt = 0) : Tot (d + 25) 173 [.ref 213] s (fun v s' => v = some (.int (s.1 26)) ∧ TS b n W (δ - 1) 0 s' ∧ Fr (s.1 26).toInt.toNat s s' ∧ (s.1 26).toInt + 1 ≤ (s'.1 26).toInt ∧ ((s'.1 8).toInt = 0 → (s.1 7).toInt < (s'.1 7).toInt ∧ isY b n s' 11 (s'.1 26).toInt.toNat (s.1 26).toInt.toNat)) := by
  obtain ⟨h1, h2, h3, h4, h5, h6, h7⟩ := h
  have a1 := h6 hf
  refine Tot.imp (Tot.mono (by omega) (s_173 10 s h1 h2 hf hD (by decide) h5 (by omega))) ?_
  rintro v s' ⟨rfl, y1, y2, y3, y4, y5, y6⟩
  refine ⟨rfl, ⟨Fr_Lx y2 h1, y1, h3, by rw [y2.1 30 (by decide)]; exact h4, by omega, fun q => ?_, fun q => ?_⟩, y2, y4, fun q => ⟨(y5 q).2.1, (y5 q).2.2.2.2⟩⟩
  · have := (y5 q).1
    omega
  · have := y6 q
    have := h1.2.1
    omega
theorem ts_175 (h : TS b n W δ c s) (hδ : 1 ≤ δ) (hf : (s.1 8).toInt = 0) (hD : (s.1 27).toInt = 0) : Tot (d + 37) 175 [.ref 213] s (fun v s' => ∃ e : Int32, v = some (.int e) ∧ TS b n W (δ - 1) 0 s' ∧ Fr (s.1 26).toInt.toNat s s' ∧ (s.1 26).toInt + 1 ≤ (s'.1 26).toInt ∧ ((s'.1 8).toInt = 0 → (s.1 7).toInt < (s'.1 7).toInt ∧ 0 ≤ e.toInt ∧ isE b n s' 11 (s.1 26).toInt.toNat (s'.1 26).toInt.toNat e.toInt.toNat)) := by
  obtain ⟨h1, h2, h3, h4, h5, h6, h7⟩ := h
  have a1 := h6 hf
  refine Tot.imp (Tot.mono (by omega) (s_175 10 s h1 h2 hf hD (by decide) h5 (by omega))) ?_
  rintro v s' ⟨e, rfl, y1, y2, y3, y4a, y4, y5, y6⟩
  refine ⟨e, rfl, ⟨Fr_Lx y2 h1, y1, h3, by rw [y2.1 30 (by decide)]; exact h4, by omega, fun q => ?_, fun q => ?_⟩, y2, by omega, fun q => ⟨(y5 q).2.1, by omega, (y5 q).2.2.2.2⟩⟩
  · have := (y5 q).1
    omega
  · have := y6 q
    have := h1.2.1
    omega
end TSS
