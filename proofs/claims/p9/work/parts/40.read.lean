/-! ===== states: what stays ===== -/
theorem sf_1 {s : yS} {k j : Nat} {v : Int32} : (sf s k v).1 j = if j = k then v else s.1 j := rfl
theorem sf_2 {s : yS} {k : Nat} {v : Int32} : (sf s k v).2 = s.2 := rfl
theorem sa_1 {s : yS} {p i : Nat} {v : Int32} : (sa s p i v).1 = s.1 := rfl
theorem sa_2 {s : yS} {p i q j : Nat} {v : Int32} : (sa s p i v).2.1 q j = if q = p ∧ j = i then v else s.2.1 q j := by
  unfold sa upd
  by_cases h : q = p
  · subst h; simp
  · simp [h]
theorem sa_3 {s : yS} {p i : Nat} {v : Int32} : (sa s p i v).2.2 = s.2.2 := rfl
theorem sl_1 {s : yS} {p i : Nat} {v : Int64} : (sl s p i v).1 = s.1 := rfl
theorem sl_2 {s : yS} {p i : Nat} {v : Int64} : (sl s p i v).2.1 = s.2.1 := rfl
theorem sf_id (s : yS) (k : Nat) : sf s k (s.1 k) = s := by
  have : upd s.1 k (s.1 k) = s.1 := by
    funext j
    unfold upd
    split
    · rename_i h
      rw [h]
    · rfl
  show (upd s.1 k (s.1 k), s.2) = s
  rw [this]
/-- same but for these fields, rows, rows of longs -/
def eqx (F A B : List Nat) (s s' : yS) : Prop := (∀ k, k ∉ F → s'.1 k = s.1 k) ∧ (∀ p, p ∉ A → s'.2.1 p = s.2.1 p) ∧ ∀ p, p ∉ B → s'.2.2 p = s.2.2 p
section EQX
variable {F A B : List Nat} {s s' : yS} {k p i : Nat}
theorem eqx_rf : eqx F A B s s := ⟨fun _ _ => rfl, fun _ _ => rfl, fun _ _ => rfl⟩
theorem eqx_sf {v : Int32} (h : eqx F A B s s') (hk : k ∈ F) : eqx F A B s (sf s' k v) := by
  refine ⟨fun j hj => ?_, h.2.1, h.2.2⟩
  rw [sf_1, if_neg (fun e => hj (by rw [e]; exact hk))]
  exact h.1 j hj
theorem eqx_sa {v : Int32} (h : eqx F A B s s') (hk : p ∈ A) : eqx F A B s (sa s' p i v) := by
  refine ⟨h.1, fun q hq => ?_, h.2.2⟩
  have hn : ¬ q = p := fun e => hq (by rw [e]; exact hk)
  have e : (sa s' p i v).2.1 q = s'.2.1 q := by
    funext j
    rw [sa_2, if_neg (fun h => hn h.1)]
  rw [e]
  exact h.2.1 q hq
theorem eqx_sl {v : Int64} (h : eqx F A B s s') (hk : p ∈ B) : eqx F A B s (sl s' p i v) := by
  refine ⟨h.1, h.2.1, fun q hq => ?_⟩
  have hn : ¬ q = p := fun e => hq (by rw [e]; exact hk)
  have e : (sl s' p i v).2.2 q = s'.2.2 q := if_neg hn
  rw [e]
  exact h.2.2 q hq
theorem eqx_tr {s'' : yS} (h : eqx F A B s s') (h' : eqx F A B s' s'') : eqx F A B s s'' := ⟨fun j hj => (h'.1 j hj).trans (h.1 j hj), fun j hj => (h'.2.1 j hj).trans (h.2.1 j hj), fun j hj => (h'.2.2 j hj).trans (h.2.2 j hj)⟩
theorem eqx_mo {F' A' B' : List Nat} (h : eqx F A B s s') (hF : ∀ k, k ∈ F → k ∈ F') (hA : ∀ k, k ∈ A → k ∈ A') (hB : ∀ k, k ∈ B → k ∈ B') : eqx F' A' B' s s' := ⟨fun j hj => h.1 j (fun q => hj (hF j q)), fun j hj => h.2.1 j (fun q => hj (hA j q)), fun j hj => h.2.2 j (fun q => hj (hB j q))⟩
end EQX
theorem Tot.mono {d d' i : Nat} {vs : List Value} {s : yS} {P : Option Value → yS → Prop} (hd : d ≤ d') (h : Tot d i vs s P) : Tot d' i vs s P := by
  obtain ⟨v, s', h1, h0, h2⟩ := h
  exact ⟨v, s', h1, h0, fun pre post hp => ycx_mono hd i vs _ _ (h2 pre post hp)⟩
/-! ===== the reader's small methods ===== -/
/-- bank b holds n tokens, of W words -/
def Lx (b n W : Nat) (s : yS) : Prop := b < 3 ∧ n ≤ 4000 ∧ W ≤ 2100 ∧ (∀ i, i ≤ n → 0 ≤ (s.2.1 216 (4002 * b + i)).toInt ∧ (s.2.1 216 (4002 * b + i)).toInt ≤ 4000) ∧ (s.2.1 215 (4002 * b + n)).toInt = 0 ∧ ∀ i, i < n → (s.2.1 215 (4002 * b + i)).toInt = 1 → 0 ≤ (s.2.1 217 (4002 * b + i)).toInt ∧ (s.2.1 217 (4002 * b + i)).toInt < W
/-- where the reader stands -/
def Rd (b n : Nat) (s : yS) : Prop := 0 ≤ (s.1 8).toInt ∧ (s.1 8).toInt ≤ 70000 ∧ 0 ≤ (s.1 7).toInt ∧ (s.1 7).toInt ≤ 13000 ∧ ((s.1 8).toInt = 0 → 4002 * (b : Int) ≤ (s.1 7).toInt ∧ (s.1 7).toInt ≤ 4002 * (b : Int) + n)
theorem Lx_eq {b n W : Nat} {s s' : yS} (h : Lx b n W s) (h5 : s'.2.1 215 = s.2.1 215) (h6 : s'.2.1 216 = s.2.1 216) (h7 : s'.2.1 217 = s.2.1 217) : Lx b n W s' := by
  unfold Lx at *
  rw [h5, h6, h7]
  exact h
section RD
variable {d b n W : Nat} {s : yS}
theorem Lx_pl (h : Lx b n W s) {x : Int} (h1 : 4002 * (b : Int) ≤ x) (h2 : x ≤ 4002 * (b : Int) + n) : 0 ≤ (s.2.1 216 x.toNat).toInt ∧ (s.2.1 216 x.toNat).toInt ≤ 4000 := by
  have := h.2.2.2.1 (x.toNat - 4002 * b) (by omega)
  rw [show 4002 * b + (x.toNat - 4002 * b) = x.toNat by omega] at this
  exact this
theorem s_163 {w t : Int32} (hL : Lx b n W s) (hw : 1 ≤ w.toInt ∧ w.toInt ≤ 15) (ht : (s.1 8).toInt = 0 → 4002 * (b : Int) ≤ t.toInt ∧ t.toInt ≤ 4002 * (b : Int) + n) : Tot (d + 1) 163 [.ref 213, .int w, .int t] s (fun v s' => v = none ∧ (¬ (s.1 8).toInt = 0 → s' = s) ∧ ((s.1 8).toInt = 0 → ∃ x : Int32, 1 ≤ x.toInt ∧ x.toInt ≤ 64015 ∧ s' = sf s 8 x)) := by
  refine t_163 ?_
  unfold w_163_0 w_163_13
  have hb := hL.1
  have hn := hL.2.1
  refine ⟨fun h => ⟨rfl, fun _ => rfl, fun h2 => absurd h2 h⟩, fun h => ?_⟩
  have h1 := ht h
  have h2 := Lx_pl hL h1.1 h1.2
  grind
theorem s_164 {c : Int32} (hL : Lx b n W s) (hR : Rd b n s) : Tot (d + 1) 164 [.ref 213, .int c] s (fun v s' => s' = s ∧ ∃ x : Int32, v = some (.int x) ∧ ((x.toInt = 1 ∧ (s.1 8).toInt = 0 ∧ (s.2.1 215 (s.1 7).toInt.toNat).toInt = 3 ∧ (s.2.1 217 (s.1 7).toInt.toNat).toInt = c.toInt) ∨ (x.toInt = 0 ∧ ¬ ((s.1 8).toInt = 0 ∧ (s.2.1 215 (s.1 7).toInt.toNat).toInt = 3 ∧ (s.2.1 217 (s.1 7).toInt.toNat).toInt = c.toInt)))) := by
  refine t_164 ?_
  unfold w_164_0 w_164_19 w_164_20
  have hb := hL.1
  have hn := hL.2.1
  have e0 : (0 : Int32).toInt = 0 := by decide
  have e1 : (1 : Int32).toInt = 1 := by decide
  unfold Rd at hR
  grind
theorem s_165 {c : Int32} (hL : Lx b n W s) (hR : Rd b n s) : Tot (d + 1) 165 [.ref 213, .int c] s (fun v s' => s' = s ∧ ∃ x : Int32, v = some (.int x) ∧ ((x.toInt = 1 ∧ (s.1 8).toInt = 0 ∧ (s.2.1 215 (s.1 7).toInt.toNat).toInt = 1 ∧ (s.2.1 217 (s.1 7).toInt.toNat).toInt = c.toInt) ∨ (x.toInt = 0 ∧ ¬ ((s.1 8).toInt = 0 ∧ (s.2.1 215 (s.1 7).toInt.toNat).toInt = 1 ∧ (s.2.1 217 (s.1 7).toInt.toNat).toInt = c.toInt)))) := by
  refine t_165 ?_
  unfold w_165_0 w_165_19 w_165_20
  have hb := hL.1
  have hn := hL.2.1
  have e0 : (0 : Int32).toInt = 0 := by decide
  have e1 : (1 : Int32).toInt = 1 := by decide
  unfold Rd at hR
  grind
/-- a name stands there -/
def nmAt (s : yS) : Prop := (s.1 8).toInt = 0 ∧ (s.2.1 215 (s.1 7).toInt.toNat).toInt = 1 ∧ 5 < (s.2.1 217 (s.1 7).toInt.toNat).toInt
def sgAt (s : yS) (c : Int) : Prop := (s.1 8).toInt = 0 ∧ (s.2.1 215 (s.1 7).toInt.toNat).toInt = 3 ∧ (s.2.1 217 (s.1 7).toInt.toNat).toInt = c
theorem s_166 (hL : Lx b n W s) (hR : Rd b n s) : Tot (d + 1) 166 [.ref 213] s (fun v s' => s' = s ∧ ∃ x : Int32, v = some (.int x) ∧ ((x.toInt = 1 ∧ nmAt s) ∨ (x.toInt = 0 ∧ ¬ nmAt s))) := by
  refine t_166 ?_
  unfold w_166_0 w_166_19 w_166_20 nmAt
  have hb := hL.1
  have hn := hL.2.1
  have e0 : (0 : Int32).toInt = 0 := by decide
  have e1 : (1 : Int32).toInt = 1 := by decide
  unfold Rd at hR
  grind
/-- before the end -/
theorem Lx_in (hL : Lx b n W s) (hR : Rd b n s) (h : (s.1 8).toInt = 0) (hs : ¬ (s.2.1 215 (s.1 7).toInt.toNat).toInt = 0) : (s.1 7).toInt < 4002 * (b : Int) + n := by
  have h1 := hR.2.2.2.2 h
  have h2 := hL.2.2.2.2.1
  have h3 : ¬ (s.1 7).toInt.toNat = 4002 * b + n := fun e => hs (by rw [e]; exact h2)
  omega
theorem s_167 {c : Int32} (hL : Lx b n W s) (hR : Rd b n s) : Tot (d + 2) 167 [.ref 213, .int c] s (fun v s' => v = none ∧ ((sgAt s c.toInt ∧ ∃ x : Int32, x.toInt = (s.1 7).toInt + 1 ∧ (s.1 7).toInt < 4002 * (b : Int) + n ∧ s' = sf s 7 x) ∨ (¬ sgAt s c.toInt ∧ (¬ (s.1 8).toInt = 0 → s' = s) ∧ ((s.1 8).toInt = 0 → ∃ x : Int32, 1 ≤ x.toInt ∧ x.toInt ≤ 64015 ∧ s' = sf s 8 x)))) := by
  refine t_167 ?_
  unfold w_167_0 w_167_16
  refine Tot.imp (s_164 hL hR) ?_
  rintro v s1 ⟨rfl, x, rfl, hx⟩
  refine ⟨x, rfl, fun h => ?_, fun h => ?_⟩
  · refine Tot.imp (s_163 hL (by decide) (fun h => hR.2.2.2.2 h)) ?_
    rintro v s' ⟨rfl, h1, h2⟩
    refine ⟨rfl, rfl, Or.inr ⟨?_, h1, h2⟩⟩
    unfold sgAt
    grind
  · have hb := hL.1
    have hn := hL.2.1
    have hin := Lx_in hL hR
    unfold Rd at hR
    unfold sgAt
    grind
theorem s_168 {c : Int32} (hL : Lx b n W s) (hR : Rd b n s) : Tot (d + 2) 168 [.ref 213, .int c] s (fun v s' => ∃ y : Int32, v = some (.int y) ∧ ((y.toInt = 1 ∧ sgAt s c.toInt ∧ ∃ x : Int32, x.toInt = (s.1 7).toInt + 1 ∧ (s.1 7).toInt < 4002 * (b : Int) + n ∧ s' = sf s 7 x) ∨ (y.toInt = 0 ∧ ¬ sgAt s c.toInt ∧ s' = s))) := by
  refine t_168 ?_
  unfold w_168_0 w_168_12
  refine Tot.imp (s_164 hL hR) ?_
  rintro v s1 ⟨rfl, x, rfl, hx⟩
  have hb := hL.1
  have hn := hL.2.1
  have hin := Lx_in hL hR
  have e0 : (0 : Int32).toInt = 0 := by decide
  have e1 : (1 : Int32).toInt = 1 := by decide
  have hr := hR
  unfold Rd at hr
  refine ⟨x, rfl, fun h => ⟨by rw [e0]; omega, fun y hy s2 hs => ⟨Or.inl h, x, rfl, Or.inr ⟨h, ?_, ?_⟩⟩⟩, fun h => ⟨by rw [e1]; omega, fun y hy s2 hs => ⟨by omega, x, rfl, Or.inl ⟨by omega, ?_, y, by rw [hy, e1], ?_, hs⟩⟩⟩⟩
  · unfold sgAt
    rcases hx with hx | hx
    · omega
    · exact hx.2
  · rw [e0, Int.add_zero] at hy
    rw [hs, Int32.toInt_inj.mp hy]
    exact sf_id s1 7
  · rcases hx with hx | hx
    · exact hx.2
    · omega
  · rcases hx with hx | hx
    · exact hin hx.2.1 (by omega)
    · omega
theorem s_169 {c : Int32} (hL : Lx b n W s) (hR : Rd b n s) : Tot (d + 2) 169 [.ref 213, .int c] s (fun v s' => v = none ∧ (((s.1 8).toInt = 0 ∧ (s.2.1 215 (s.1 7).toInt.toNat).toInt = 1 ∧ (s.2.1 217 (s.1 7).toInt.toNat).toInt = c.toInt ∧ ∃ x : Int32, x.toInt = (s.1 7).toInt + 1 ∧ (s.1 7).toInt < 4002 * (b : Int) + n ∧ s' = sf s 7 x) ∨ ((¬ (s.1 8).toInt = 0 → s' = s) ∧ ((s.1 8).toInt = 0 → ∃ x : Int32, 1 ≤ x.toInt ∧ x.toInt ≤ 64015 ∧ s' = sf s 8 x)))) := by
  refine t_169 ?_
  unfold w_169_0 w_169_16
  refine Tot.imp (s_165 hL hR) ?_
  rintro v s1 ⟨rfl, x, rfl, hx⟩
  refine ⟨x, rfl, fun h => ?_, fun h => ?_⟩
  · refine Tot.imp (s_163 hL (by decide) (fun h => hR.2.2.2.2 h)) ?_
    rintro v s' ⟨rfl, h1, h2⟩
    exact ⟨rfl, rfl, Or.inr ⟨h1, h2⟩⟩
  · have hb := hL.1
    have hn := hL.2.1
    have hin := Lx_in hL hR
    unfold Rd at hR
    grind
theorem s_170 (hL : Lx b n W s) (hR : Rd b n s) (hA : (s.1 7).toInt ≤ 12900) : Tot (d + 2) 170 [.ref 213] s (fun v s' => v = some (.int (s.1 7)) ∧ ((nmAt s ∧ ∃ x : Int32, x.toInt = (s.1 7).toInt + 1 ∧ (s.1 7).toInt < 4002 * (b : Int) + n ∧ s' = sf s 7 x) ∨ (¬ nmAt s ∧ ∃ x y : Int32, x.toInt = (s.1 7).toInt + 1 ∧ s' = sf (sf s 8 y) 7 x ∧ (¬ (s.1 8).toInt = 0 → y = s.1 8) ∧ ((s.1 8).toInt = 0 → 1 ≤ y.toInt ∧ y.toInt ≤ 64015)))) := by
  refine t_170 ?_
  unfold w_170_0 w_170_8
  refine Tot.imp (s_166 hL hR) ?_
  rintro v s1 ⟨rfl, x, rfl, hx⟩
  have hb := hL.1
  have hn := hL.2.1
  refine ⟨x, rfl, fun h => ?_, fun h => ?_⟩
  · have hm : nmAt s1 := by
      rcases hx with hx | hx
      · exact hx.2
      · exact absurd hx.1 h
    have hin := Lx_in hL hR hm.1 (by rw [hm.2.1]; decide)
    refine ⟨by unfold Rd at hR; omega, fun x1 hx1 s2 hs2 => ?_⟩
    subst hs2
    have e8 : (sf s1 7 x1).1 7 = x1 := rfl
    rw [e8]
    refine ⟨by unfold Rd at hR; omega, fun x3 hx3 => ?_⟩
    have e9 : x3 = s1.1 7 := by
      apply Int32.toInt_inj.mp
      omega
    rw [e9]
    exact ⟨rfl, Or.inl ⟨hm, x1, hx1, hin, rfl⟩⟩
  · refine Tot.imp (s_163 hL (by decide) (fun h => hR.2.2.2.2 h)) ?_
    rintro v s4 ⟨rfl, h1, h2⟩
    refine ⟨rfl, ?_⟩
    obtain ⟨y, hy1, hy2, hy3⟩ : ∃ y : Int32, s4 = sf s1 8 y ∧ (¬ (s1.1 8).toInt = 0 → y = s1.1 8) ∧ ((s1.1 8).toInt = 0 → 1 ≤ y.toInt ∧ y.toInt ≤ 64015) := by
      by_cases h0 : (s1.1 8).toInt = 0
      · obtain ⟨y, a1, a2, a3⟩ := h2 h0
        exact ⟨y, a3, fun q => absurd h0 q, fun _ => ⟨a1, a2⟩⟩
      · exact ⟨s1.1 8, by rw [sf_id]; exact h1 h0, fun _ => rfl, fun q => absurd q h0⟩
    subst hy1
    have e7 : (sf s1 8 y).1 7 = s1.1 7 := rfl
    rw [e7]
    have hn2 : ¬ nmAt s1 := by
      unfold nmAt at *
      grind
    refine ⟨by unfold Rd at hR; omega, fun x1 hx1 s2 hs2 => ?_⟩
    subst hs2
    have e8 : (sf (sf s1 8 y) 7 x1).1 7 = x1 := rfl
    rw [e8]
    refine ⟨by unfold Rd at hR; omega, fun x3 hx3 => ?_⟩
    have e9 : x3 = s1.1 7 := by
      apply Int32.toInt_inj.mp
      omega
    rw [e9]
    exact ⟨rfl, Or.inr ⟨hn2, x1, y, hx1, rfl, hy2, hy3⟩⟩
theorem s_172 {c : Int32} (hL : Lx b n W s) (hR : Rd b n s) (hD : 0 ≤ (s.1 27).toInt ∧ (s.1 27).toInt ≤ 100) : Tot (d + 2) 172 [.ref 213, .int c] s (fun v s' => v = none ∧ ∃ x y : Int32, x.toInt = (s.1 27).toInt + 1 ∧ s' = sf (sf s 8 y) 27 x ∧ (¬ (s.1 8).toInt = 0 → y = s.1 8) ∧ ((s.1 8).toInt = 0 → (¬ c.toInt = 0 ∧ ¬ (s.1 27).toInt = 10 ∧ y.toInt = 0) ∨ ((c.toInt = 0 ∨ (s.1 27).toInt = 10) ∧ 1 ≤ y.toInt ∧ y.toInt ≤ 64015))) := by
  refine t_172 ?_
  unfold w_172_0 w_172_17
  have key : ∀ y : Int32, (-2147483648 ≤ ((sf s 8 y).1 27).toInt + 1 ∧ ((sf s 8 y).1 27).toInt + 1 ≤ 2147483647) := by
    intro y
    show -2147483648 ≤ (s.1 27).toInt + 1 ∧ (s.1 27).toInt + 1 ≤ 2147483647
    omega
  have get : ∀ s4 : yS, (¬ (s.1 8).toInt = 0 → s4 = s) → ((s.1 8).toInt = 0 → ∃ x : Int32, 1 ≤ x.toInt ∧ x.toInt ≤ 64015 ∧ s4 = sf s 8 x) → ∃ y : Int32, s4 = sf s 8 y ∧ (¬ (s.1 8).toInt = 0 → y = s.1 8) ∧ ((s.1 8).toInt = 0 → 1 ≤ y.toInt ∧ y.toInt ≤ 64015) := by
    intro s4 h1 h2
    by_cases h0 : (s.1 8).toInt = 0
    · obtain ⟨y, a1, a2, a3⟩ := h2 h0
      exact ⟨y, a3, fun q => absurd h0 q, fun _ => ⟨a1, a2⟩⟩
    · exact ⟨s.1 8, by rw [sf_id]; exact h1 h0, fun _ => rfl, fun q => absurd q h0⟩
  refine ⟨fun h => ⟨fun h2 => ?_, fun h2 => ?_⟩, fun h => ?_⟩
  · exact ⟨by omega, fun x hx s2 hs => ⟨rfl, x, s.1 8, hx, by rw [hs, sf_id], fun _ => rfl, fun q => Or.inl ⟨h, h2, q⟩⟩⟩
  · refine Tot.imp (s_163 hL (by decide) (fun h => hR.2.2.2.2 h)) ?_
    rintro v s4 ⟨rfl, h3, h4⟩
    obtain ⟨y, rfl, y1, y2⟩ := get s4 h3 h4
    exact ⟨rfl, key y, fun x hx s2 hs => ⟨rfl, x, y, hx, hs, y1, fun q => Or.inr ⟨Or.inr h2, y2 q⟩⟩⟩
  · refine Tot.imp (s_163 hL (by decide) (fun h => hR.2.2.2.2 h)) ?_
    rintro v s4 ⟨rfl, h3, h4⟩
    obtain ⟨y, rfl, y1, y2⟩ := get s4 h3 h4
    exact ⟨rfl, key y, fun x hx s2 hs => ⟨rfl, x, y, hx, hs, y1, fun q => Or.inr ⟨Or.inl h, y2 q⟩⟩⟩
end RD
