/-! ===== the reference: rows of slots, headWords ===== -/
section WGL
variable {d : Nat} {s s' s'' u u' : yS} {B b b0 b1 n : Int} {K L W ar kd : Int → Int} {hf tp TN : List Int} {lo hi mi a x y t f : Int} {a1 a2 a3 : Int32} {w : Nat → Int → List Int} {F : Int → Int} {Ls : List Int} {q k : Nat}
theorem ffs_c {l l' : List Int} : ffs (ffs l :: l') = ffs (l ++ l') := by
  rw [ffs_app]
  rfl
/-- the state behind k slots of a row (names Ls, nodes in row q from f on) -/
def LRq (K L : Int → Int) (B : Int) (w : Nat → Int → List Int) (F : Int → Int) (q : Nat) (f lo hi : Int) (Ls : List Int) (s : yS) (k : Nat) (u : yS) : Prop := k ≤ Ls.length ∧ RWf B lo hi (s.1 65).toInt s u ∧ (u.1 76 = s.1 76 ∧ u.1 77 = s.1 77 ∧ u.1 78 = s.1 78) ∧ u.2.1 261 = s.2.1 261 ∧ (u.1 8).toInt = ffs ((s.1 8).toInt :: (Ls.take k).map F) ∧ ((u.1 8).toInt = 0 → (s.1 65).toInt ≤ (u.1 65).toInt ∧ ∃ mi, lo ≤ mi ∧ (u.1 65).toInt ≤ (s.1 65).toInt + (mi - lo) ∧ srtQ K L mi hi (nmS 0 0 (Ls.drop k)) ∧ ∀ (i : Nat) (t : Int), i < k → Ls[i]? = some t → RSn K L B w u (u.1 65).toInt (u.2.1 q (f + i).toNat).toInt (t + 1) ∧ nxT K L (t + 1) ≤ mi ∧ (p_t K L 10 false (0, t + 1)).1 = 0) ∧ (¬ (s.1 8).toInt = 0 → u = s)
theorem LRq_0 (hs : srtQ K L lo hi (nmS 0 0 Ls)) : LRq K L B w F q f lo hi Ls s 0 s := by
  refine ⟨Nat.zero_le _, RWf_rf, ⟨rfl, rfl, rfl⟩, rfl, ?_, fun _ => ⟨Int.le_refl _, lo, Int.le_refl _, by omega, ?_, fun i t hi2 => absurd hi2 (Nat.not_lt_zero _)⟩, fun _ => rfl⟩
  · rw [List.take_zero, List.map_nil]
    show _ = if (s.1 8).toInt = 0 then 0 else (s.1 8).toInt
    by_cases h0 : (s.1 8).toInt = 0
    · rw [if_pos h0]
      exact h0
    · rw [if_neg h0]
  · rw [List.drop_zero]
    exact hs
/-- the next slot of a row: where it stands -/
theorem LRq_n (h : LRq K L B w F q f lo hi Ls s k u) (h0 : (u.1 8).toInt = 0) (ht : Ls[k]? = some t) (ht0 : 0 ≤ t) : (p_t K L 10 false (0, t + 1)).1 = 0 ∧ nxT K L (t + 1) ≤ hi ∧ lo ≤ t + 1 := by
  obtain ⟨-, -, -, -, -, h6, -⟩ := h
  obtain ⟨-, mi, m1, -, m3, -⟩ := h6 h0
  have hk := (List.getElem?_eq_some_iff.mp ht).1
  have e : Ls.drop k = t :: Ls.drop (k + 1) := by
    rw [List.drop_eq_getElem_cons hk]
    have := (List.getElem?_eq_some_iff.mp ht).2
    rw [this]
  rw [e] at m3
  obtain ⟨a, b, c1, c2, c3, c4, c5⟩ := m3
  obtain ⟨e1, e2, e3⟩ := c4 (show 0 ≤ t + 1 by omega)
  have := srtQ_le c5
  have e1' : a ≤ t + 1 := e1
  have e2' : nxT K L (t + 1) ≤ b := e2
  exact ⟨e3, by omega, by omega⟩
theorem LRq_s (hq : ¬ q = 231 ∧ ¬ q = 232 ∧ ¬ q = 264 ∧ ¬ q = 261) (h : LRq K L B w F q f lo hi Ls s k u) (ht : Ls[k]? = some t) (ht0 : 0 ≤ t) (hp : (u.1 8).toInt = 0 → RSq K L B w (t + 1) (u.2.1 q (f + k).toNat).toInt (F t) u u') (hn : ¬ (u.1 8).toInt = 0 → u' = u) : LRq K L B w F q f lo hi Ls s (k + 1) u' := by
  have hh := h
  obtain ⟨h1, h2, h3, h4, h5, h6, h7⟩ := h
  have hk := (List.getElem?_eq_some_iff.mp ht).1
  have em : (Ls.take (k + 1)).map F = (Ls.take k).map F ++ [F t] := mapt_s ht
  by_cases h0 : (u.1 8).toInt = 0
  · obtain ⟨r1, r2, r3, r4, r5⟩ := hp h0
    obtain ⟨n1, n2, n3⟩ := LRq_n hh h0 ht ht0
    obtain ⟨g1, mi, g2, g3, g4, g5⟩ := h6 h0
    have e : Ls.drop k = t :: Ls.drop (k + 1) := by
      rw [List.drop_eq_getElem_cons hk]
      have := (List.getElem?_eq_some_iff.mp ht).2
      rw [this]
    rw [e] at g4
    obtain ⟨ca, cb, c1, c2, c3, c4, c5⟩ := g4
    obtain ⟨e1, e2, e3⟩ := c4 (show 0 ≤ t + 1 by omega)
    have hcb := srtQ_le c5
    have e1' : ca ≤ t + 1 := e1
    have e2' : nxT K L (t + 1) ≤ cb := e2
    refine ⟨by omega, RWf_tr h2 r1 n3 n2 g1, ⟨r2.1.trans h3.1, r2.2.1.trans h3.2.1, r2.2.2.trans h3.2.2⟩, r3.trans h4, ?_, fun hz => ?_, fun hs => ?_⟩
    · rw [em, ← List.cons_append, ffs_s, ← h5, if_pos h0, r4, if_pos h0]
    · obtain ⟨r6, r7, r8⟩ := r5 hz
      refine ⟨by omega, cb, by omega, by omega, c5, fun i t' hi2 ht' => ?_⟩
      rw [RWf_r r1 hq.1 hq.2.1 hq.2.2.1 hq.2.2.2]
      by_cases ei : i = k
      · rw [ei, ht] at ht'
        rw [← Option.some.inj ht', ei]
        exact ⟨r6, e2', n1⟩
      · obtain ⟨k1, k2, k3⟩ := g5 i t' (by omega) ht'
        exact ⟨RSn_A (RSn_f k1 k3 r1 (Or.inl (by omega)) (Int.le_refl _)) r7, by omega, k3⟩
    · rw [h7 hs] at h0
      exact absurd h0 hs
  · have hu := hn h0
    rw [hu]
    refine ⟨by omega, h2, h3, h4, ?_, fun hz => absurd hz h0, h7⟩
    rw [em, ← List.cons_append, ffs_s, ← h5, if_neg h0]
theorem YA_yT {p : Nat} (g : YA K L B s p q f x y Ls) {i : Nat} (ht : Ls[i]? = some t) (hr : ∀ p, ¬ p = 231 → ¬ p = 232 → ¬ p = 264 → ¬ p = 261 → u.2.1 p = s.2.1 p) : ∃ b', yT K L B u 10 (s.2.1 q (f + i).toNat).toInt b' (t + 1) := by
  obtain ⟨-, a', b', -, -, h3, h4⟩ := g i t ht
  rw [h3]
  exact ⟨b', yT_eq 10 _ _ _ h4 ⟨fun p j hp _ _ => by rw [hr p (by omega) (by omega) (by omega) (by omega)], fun j _ _ => by rw [hr 225 (by decide) (by decide) (by decide) (by decide)]⟩⟩
theorem KDr_W (h : RWf B lo hi a s s') (g : KDr b s kd TN) : KDr b s' kd TN := by
  unfold KDr at *
  rw [RWf_r h (p := 235) (by decide) (by decide) (by decide) (by decide)]
  exact g
/-- resolve behind a fault -/
theorem x_204f (h8 : 0 < (s.1 8).toInt) : Par d 204 [.ref 213, .int a1, .int 0] s (fun v s' => v = none ∧ s' = s) := by
  cases d with
  | zero => exact Par_0
  | succ d =>
    refine pb_204 ?_
    unfold ub_204_0
    exact ⟨fun q => by omega, fun _ => ⟨rfl, rfl⟩⟩
theorem x_207f (h8 : 0 < (s.1 8).toInt) : Par d 207 [.ref 213, .int a1] s (fun v s' => v = none ∧ s' = s) := by
  cases d with
  | zero => exact Par_0
  | succ d =>
    refine pb_207 ?_
    unfold ub_207_0
    refine Par.imp (x_204f h8) ?_
    rintro v2 s1 ⟨rfl, hs1⟩
    refine ⟨rfl, fun _ => ⟨rfl, hs1⟩, fun q => ?_⟩
    rw [hs1] at q
    omega
/-- no fault is below 0 -/
theorem tlS_nn {g : Int → Int × List (Int × Int)} {nx : Int → Int} : ∀ (k : Nat) (v : Int), (∀ i, i < k → 0 ≤ (g (uS nx v i)).1) → 0 ≤ (tlS g nx k v).1
  | 0, v, h => Int.le_refl _
  | k + 1, v, h => by
    have h0 : 0 ≤ (g v).1 := h 0 (by omega)
    have ih := tlS_nn k (nx v + 1) (fun i hi2 => by rw [uS_s]; exact h (i + 1) (by omega))
    rw [tlS_s]
    split
    · split
      · exact Int.le_refl _
      · exact ih
    · exact h0
theorem tlT_nn {cd : Int → Int} (hX : TXp K L n) : ∀ (m : Nat) (t : Int), m ≤ 10 → 0 ≤ t → (p_t K L m false (0, t)).1 = 0 → nxT K L t ≤ n → 0 ≤ (tlT K L cd ar m t).1
  | 0, t, _, _, hp, _ => absurd (show (e_f K L true (0, t)).1 = 0 from hp) (fun e => ef_t e)
  | m + 1, t, hm, h0, hp, hn => by
    obtain ⟨u1, u2, u3⟩ := pt_u (m := m) (by omega) hp
    have hfw := (pt_fw (m + 1) _ _ hp).2
    have hnx := (pt_g (m + 1) (by omega) false t hp).2.2
    rw [← hnx] at hfw
    have hfw' : t < nxT K L t := hfw
    have hLt := hX.2.2 t h0 (by omega)
    have hS : 0 ≤ (tlS (tlT K L cd ar m) (nxT K L) (ntc K L t) (t + 2)).1 := by
      refine tlS_nn _ _ (fun i hi2 => ?_)
      unfold ntc at hi2
      by_cases hk : K (t + 1) = 91
      · rw [if_pos hk] at hi2
        obtain ⟨v1, v2, v3⟩ := u2 hk
        have hps : ∀ j, j < NT K L (t + 1) → uS (nxT K L) (t + 2) j < nxT K L (uS (nxT K L) (t + 2) j) := fun j hj => by
          have g1 := v2 j hj
          have g2 := (pt_g m (by omega) false _ g1).2.2
          have g3 := (pt_fw m _ _ g1).2
          rw [← g2] at g3
          exact g3
        have hmo := uS_mo (nx := nxT K L) (t := t + 2) (N := NT K L (t + 1)) hps
        have e1 := hmo 0 i (by omega) (by omega)
        have e2 := hmo (i + 1) (NT K L (t + 1)) (by omega) (Nat.le_refl _)
        have e3 : uS (nxT K L) (t + 2) (i + 1) = nxT K L (uS (nxT K L) (t + 2) i) + 1 := rfl
        have e4 : uS (nxT K L) (t + 2) 0 = t + 2 := rfl
        have e5 : nxT K L t = uS (nxT K L) (t + 2) (NT K L (t + 1)) := by rw [hnx, v3]
        exact tlT_nn hX m _ (by omega) (by omega) (v2 i hi2) (by omega)
      · rw [if_neg hk] at hi2
        omega
    rw [tlT]
    split
    · show 0 ≤ 2 + 16 * L t
      omega
    · split
      · show 0 ≤ 4 + 16 * L t
        omega
      · split
        · split
          · show 0 ≤ 9 + 16 * L t
            omega
          · exact Int.le_refl _
        · exact hS
theorem tF_nn (hX : TXp K L n) {kk : Int} (h0 : 0 ≤ t) (hp : (p_t K L 10 false (0, t)).1 = 0) (hn : nxT K L t ≤ n) : 0 ≤ tF K L W ar kd hf tp TN kk t := by
  have h1 := tlT_nn (cd := cdOf W hf tp TN) (ar := ar) hX 10 t (Nat.le_refl _) h0 hp hn
  have hnx := (pt_g 10 (by omega) false t hp).2.2
  have hfw := (pt_fw 10 _ _ hp).2
  rw [← hnx] at hfw
  have hfw' : t < nxT K L t := hfw
  have hLt := hX.2.2 t h0 (by omega)
  unfold tF
  split
  · split
    · omega
    · exact Int.le_refl _
  · exact h1
theorem LRq_nn (hX : TXp K L n) (hhi : hi ≤ n) (hlo : 0 ≤ lo) (h8 : 0 ≤ (s.1 8).toInt) (hs : srtQ K L lo hi (nmS 0 0 Ls)) (hF : ∀ t, 0 ≤ t → (p_t K L 10 false (0, t + 1)).1 = 0 → nxT K L (t + 1) ≤ n → 0 ≤ F t) (hL0 : ∀ t ∈ Ls, 0 ≤ t) (h : LRq K L B w F q f lo hi Ls s k u) : 0 ≤ (u.1 8).toInt := by
  rw [h.2.2.2.2.1]
  have key : ∀ l : List Int, (∀ z ∈ l, 0 ≤ z) → 0 ≤ ffs l := by
    intro l
    induction l with
    | nil => exact fun _ => Int.le_refl _
    | cons z l ih =>
      intro hz
      show 0 ≤ if z = 0 then ffs l else z
      split
      · exact ih (fun v hv => hz v (List.mem_cons_of_mem _ hv))
      · exact hz z List.mem_cons_self
  refine key _ (fun z hz => ?_)
  rcases List.mem_cons.mp hz with e | hz
  · rw [e]
    exact h8
  · obtain ⟨t', ht', e⟩ := List.mem_map.mp hz
    rw [← e]
    have hm := List.mem_of_mem_take ht'
    obtain ⟨i, hi2, hi3⟩ := List.mem_iff_getElem.mp hm
    have hat : (nmS 0 0 Ls)[i]? = some (t', 0, t' + 1, 0) := by
      unfold nmS
      rw [List.getElem?_map, List.getElem?_eq_getElem hi2, hi3]
      rfl
    obtain ⟨ca, cb, -, -, c3, -, c5, -⟩ := srtQ_at _ lo hi i _ hs hat
    have h0 := hL0 t' hm
    obtain ⟨e1, e2, e3⟩ := c5 (show 0 ≤ t' + 1 by omega)
    have e2' : nxT K L (t' + 1) ≤ cb := e2
    exact hF t' h0 e3 (by omega)
end WGL
