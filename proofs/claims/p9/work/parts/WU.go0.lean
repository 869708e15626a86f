/-! ===== names told twice: the reference over all declarations; both are one ===== -/
def twA (W K L : Int → Int) (Ls : List Int) : Nat → List (Int × Bool)
  | 0 => []
  | k + 1 => twA W K L Ls k ++ (match Ls[k]? with
    | some t => twD W K L Ls k t
    | none => [])
section WUC
variable {K L W W' : Int → Int} {lo hi n t : Int} {Ls : List Int} {k : Nat}
theorem twA_s (h1 : Ls[k]? = some t) : twA W K L Ls (k + 1) = twA W K L Ls k ++ twD W K L Ls k t := by
  show twA W K L Ls k ++ (match Ls[k]? with
    | some t => twD W K L Ls k t
    | none => []) = _
  rw [h1]
theorem twA_o (hD : dcC K L lo hi Ls) (hlo : 0 ≤ lo) : ∀ k : Nat, k ≤ Ls.length → ∃ mi, lo ≤ mi ∧ srB lo mi (twA W K L Ls k) ∧ dcC K L mi hi (Ls.drop k) := by
  intro k
  induction k with
  | zero => exact fun _ => ⟨lo, Int.le_refl _, Int.le_refl _, by rw [List.drop_zero]; exact hD⟩
  | succ k ih =>
    intro hk
    obtain ⟨mi, m0, m1, m2⟩ := ih (by omega)
    obtain ⟨t, h1⟩ : ∃ t, Ls[k]? = some t := ⟨_, List.getElem?_eq_getElem (by omega)⟩
    have e : Ls.drop k = t :: Ls.drop (k + 1) := by
      rw [List.drop_eq_getElem_cons (by omega)]
      have := (List.getElem?_eq_some_iff.mp h1).2
      rw [this]
    rw [e] at m2
    obtain ⟨c1, c2⟩ := m2
    rw [twA_s h1]
    unfold twD
    by_cases h6 : K t = 6
    · rw [if_pos h6] at c2 ⊢
      have hs := srB_F (W := W) (F := (fnP K L Ls).take (kFn K (Ls.take k))) c2.1 (by omega)
      have := (srB_ge hs).1
      exact ⟨_, by omega, srB_app m1 (srB_lo (show mi ≤ t + 1 by omega) hs), c2.2⟩
    · rw [if_neg h6] at c2 ⊢
      have hs := srB_T (W := W) (E := (tNm K Ls).take (kTy K (Ls.take k))) c2.1 (by omega)
      have := (srB_ge hs).1
      exact ⟨_, by omega, srB_app m1 (srB_lo (show mi ≤ t + 1 by omega) hs), c2.2⟩
theorem twA_m {v : Int} : ∀ k : Nat, k ≤ Ls.length → ((v, true) ∈ twA W K L Ls k ↔ ∃ (i : Nat) (t : Int), i < k ∧ Ls[i]? = some t ∧ (v, true) ∈ twD W K L Ls i t) := by
  intro k
  induction k with
  | zero => exact fun _ => ⟨fun q => absurd q List.not_mem_nil, fun ⟨i, t, q, _⟩ => absurd q (Nat.not_lt_zero _)⟩
  | succ k ih =>
    intro hk
    obtain ⟨t, h1⟩ : ∃ t, Ls[k]? = some t := ⟨_, List.getElem?_eq_getElem (by omega)⟩
    rw [twA_s h1, List.mem_append, ih (by omega)]
    constructor
    · rintro (⟨i, t', q1, q2, q3⟩ | q)
      · exact ⟨i, t', by omega, q2, q3⟩
      · exact ⟨k, t, by omega, h1, q⟩
    · rintro ⟨i, t', q1, q2, q3⟩
      by_cases ei : i = k
      · rw [ei, h1] at q2
        rw [ei, ← Option.some.inj q2] at q3
        exact Or.inr q3
      · exact Or.inl ⟨i, t', by omega, q2, q3⟩
/-- the first of the list is the least of all -/
theorem twA_mn (hD : dcC K L lo hi Ls) (hlo : 0 ≤ lo) : isMn (SA W K L Ls) (fT (twA W K L Ls Ls.length)) := by
  obtain ⟨mi, -, m1, -⟩ := twA_o (W := W) hD hlo Ls.length (Nat.le_refl _)
  have key : ∀ v, (v, true) ∈ twA W K L Ls Ls.length ↔ SA W K L Ls v := fun v => by
    rw [twA_m Ls.length (Nat.le_refl _)]
    exact ⟨fun ⟨i, t, _, q2, q3⟩ => ⟨i, t, q2, q3⟩, fun ⟨i, t, q2, q3⟩ => ⟨i, t, (List.getElem?_eq_some_iff.mp q2).1, q2, q3⟩⟩
  rcases fT_mn _ _ _ m1 with ⟨a1, a2⟩ | ⟨a1, a2⟩
  · exact Or.inl ⟨a1, fun v hv => a2 v ((key v).mpr hv)⟩
  · exact Or.inr ⟨(key _).mp a1, fun v hv => a2 v ((key v).mpr hv)⟩
/-- the fault of names told twice -/
theorem twA_f (hX : TXp K L n) (hD : dcC K L lo hi Ls) (hlo : 0 ≤ lo) (hhi : hi ≤ n) {r : Int} (hr : isMn (SA W K L Ls) r) : frst L (twA W K L Ls Ls.length) 0 = if r < 1000000 then 3 + 16 * L r else 0 := by
  have hn4 := hX.1
  obtain ⟨mi, m0, m1, m2⟩ := twA_o (W := W) hD hlo Ls.length (Nat.le_refl _)
  rw [List.drop_length] at m2
  have m2' : mi ≤ hi := m2
  rw [frst_T _ (fun p hp => by
    have := (srB_ge m1).2 p hp
    have := hX.2.2 p.1 (by omega) (by omega)
    omega)]
  have e : fT (twA W K L Ls Ls.length) = r := isMn_one (fun v hv => by have := SA_lt hD hlo (by omega) hv; omega) (twA_mn hD hlo) hr
  rw [e]
/-! words by other numbers -/
theorem anyW_cg (hQ : ∀ u v, wTk K n u → wTk K n v → (W u = W v ↔ W' u = W' v)) {l : List Int} (hl : ∀ u ∈ l, wTk K n u) {v : Int} (hv : wTk K n v) : anyW W l v = anyW W' l v := by
  induction l with
  | nil => rfl
  | cons u l ih =>
    show (decide (W u = W v) || anyW W l v) = (decide (W' u = W' v) || anyW W' l v)
    rw [ih (fun z hz => hl z (List.mem_cons_of_mem _ hz))]
    have := hQ u v (hl u List.mem_cons_self) hv
    by_cases e : W u = W v
    · rw [decide_eq_true e, decide_eq_true (this.mp e)]
    · rw [decide_eq_false e, decide_eq_false (fun q => e (this.mpr q))]
theorem tw1_cg (hQ : ∀ u v, wTk K n u → wTk K n v → (W u = W v ↔ W' u = W' v)) : ∀ (l pre : List Int), (∀ u ∈ pre, wTk K n u) → (∀ u ∈ l, wTk K n u) → tw1 W pre l = tw1 W' pre l
  | [], pre, _, _ => rfl
  | v :: l, pre, hp, hl => by
    show (v, anyW W pre v) :: tw1 W (pre ++ [v]) l = (v, anyW W' pre v) :: tw1 W' (pre ++ [v]) l
    rw [anyW_cg hQ hp (hl v List.mem_cons_self), tw1_cg hQ l (pre ++ [v]) (fun u hu => by
      rcases List.mem_append.mp hu with hu | hu
      · exact hp u hu
      · rw [List.mem_singleton.mp hu]
        exact hl v List.mem_cons_self) (fun u hu => hl u (List.mem_cons_of_mem _ hu))]
theorem twH_cg (hQ : ∀ u v, wTk K n u → wTk K n v → (W u = W v ↔ W' u = W' v)) : ∀ (l pre : List Int), (∀ u ∈ pre, wTk K n u) → (∀ z ∈ l, wTk K n z ∧ ∀ u ∈ h_f K L (0, z + 1), wTk K n u) → twH W K L pre l = twH W' K L pre l
  | [], pre, _, _ => rfl
  | v :: l, pre, hp, hl => by
    obtain ⟨h1, h2⟩ := hl v List.mem_cons_self
    show (v, anyW W pre v) :: (tw1 W [] (h_f K L (0, v + 1)) ++ twH W K L (pre ++ [v]) l) = (v, anyW W' pre v) :: (tw1 W' [] (h_f K L (0, v + 1)) ++ twH W' K L (pre ++ [v]) l)
    rw [anyW_cg hQ hp h1, tw1_cg hQ _ [] (fun u hu => absurd hu List.not_mem_nil) h2, twH_cg hQ l (pre ++ [v]) (fun u hu => by
      rcases List.mem_append.mp hu with hu | hu
      · exact hp u hu
      · rw [List.mem_singleton.mp hu]
        exact h1) (fun z hz => hl z (List.mem_cons_of_mem _ hz))]
theorem anyF_cg (hQ : ∀ u v, wTk K n u → wTk K n v → (W u = W v ↔ W' u = W' v)) {l : List (Int × Int)} (hl : ∀ p ∈ l, wTk K n p.1 ∧ wTk K n p.2) {a c : Int} (ha : wTk K n a) (hc : wTk K n c) : anyF W l a c = anyF W' l a c := by
  induction l with
  | nil => rfl
  | cons p l ih =>
    show (decide (W p.1 = W a ∧ W p.2 = W c) || anyF W l a c) = (decide (W' p.1 = W' a ∧ W' p.2 = W' c) || anyF W' l a c)
    rw [ih (fun z hz => hl z (List.mem_cons_of_mem _ hz))]
    obtain ⟨p1, p2⟩ := hl p List.mem_cons_self
    have e1 := hQ p.1 a p1 ha
    have e2 := hQ p.2 c p2 hc
    by_cases e : W p.1 = W a ∧ W p.2 = W c
    · rw [decide_eq_true e, decide_eq_true ⟨e1.mp e.1, e2.mp e.2⟩]
    · rw [decide_eq_false e, decide_eq_false (fun q => e ⟨e1.mpr q.1, e2.mpr q.2⟩)]
theorem frst_cg {P P' : Int → Int} : ∀ (l : List (Int × Bool)) (φ : Int), (∀ p ∈ l, P p.1 = P' p.1) → frst P l φ = frst P' l φ
  | [], _, _ => rfl
  | p :: l, φ, h => by
    show frst P l (if φ = 0 ∧ p.2 = true then 3 + 16 * P p.1 else φ) = frst P' l (if φ = 0 ∧ p.2 = true then 3 + 16 * P' p.1 else φ)
    rw [h p List.mem_cons_self, frst_cg l _ (fun q hq => h q (List.mem_cons_of_mem _ hq))]
/-- the names of types and funcs are words -/
theorem tNm_w (hD : dcC K L lo hi Ls) (hlo : 0 ≤ lo) (hhi : hi ≤ n) : ∀ v ∈ tNm K Ls, wTk K n v := fun v hv => by
  unfold tNm at hv
  obtain ⟨t', ht', e⟩ := List.mem_map.mp hv
  obtain ⟨j, hj, hj2⟩ := List.mem_iff_getElem.mp ht'
  obtain ⟨i, i1, i2, i3⟩ := tyL_inv Ls j t' (by rw [List.getElem?_eq_getElem hj, hj2])
  obtain ⟨d1, -, d3⟩ := dcC_at Ls i t' lo hi hD i1
  have hty := ty_fw (d3 i2).1
  obtain ⟨-, -, -, -, k1, -, -, -⟩ := y5_fw hty.1
  have h5 := y5_le hty.1
  have hs := srtQ_le (srt_ty (h := 0) (d3 i2).1)
  have hs' : t' + 2 ≤ (p_ty K L false (0, t')).2 := hs
  have := (d3 i2).2
  rw [← e]
  exact ⟨by omega, by omega, k1⟩
theorem fnP_w (hD : dcC K L lo hi Ls) (hlo : 0 ≤ lo) (hhi : hi ≤ n) : ∀ p ∈ fnP K L Ls, wTk K n p.1 ∧ wTk K n p.2 := fun p hp => by
  unfold fnP at hp
  obtain ⟨t', ht', e⟩ := List.mem_map.mp hp
  obtain ⟨j, hj, hj2⟩ := List.mem_iff_getElem.mp ht'
  obtain ⟨i, i1, i2, i3⟩ := fnL_inv Ls j t' (by rw [List.getElem?_eq_getElem hj, hj2])
  obtain ⟨w1, w2, w3⟩ := fn_wd hD hlo hhi i1 i2
  rw [← e]
  exact ⟨w1, w3⟩
theorem twD_cg (hQ : ∀ u v, wTk K n u → wTk K n v → (W u = W v ↔ W' u = W' v)) (hD : dcC K L lo hi Ls) (hlo : 0 ≤ lo) (hhi : hi ≤ n) (h1 : Ls[k]? = some t) : twD W K L Ls k t = twD W' K L Ls k t := by
  obtain ⟨d1, d2, d3⟩ := dcC_at Ls k t lo hi hD h1
  have nil : ∀ u ∈ ([] : List Int), wTk K n u := fun u hu => absurd hu List.not_mem_nil
  unfold twD
  by_cases h6 : K t = 6
  · rw [if_pos h6, if_pos h6]
    have hpf := (d2 h6).1
    have hd2 := (d2 h6).2
    have hfn := fn_fw hpf
    obtain ⟨e1, e2, e3, e4⟩ := fn_end hpf
    obtain ⟨w1, w2, w3⟩ := fn_wd hD hlo hhi h1 h6
    obtain ⟨q1, q2⟩ := hd_wn e2
    have wp := pa_wn hfn.1
    have h4 := f4_le hfn.1
    obtain ⟨f1, f2, f3, f4, f5, f6, f7, f8, f9, f10⟩ := f7_fw hfn.1
    have e5 : (f_5 K L false (0, t)).2 = (f_4 K L false (0, t)).2 + 1 := by rw [f6]
    have hpw : ∀ u ∈ fPa K L false (0, t), wTk K n u := fun u hu => by
      obtain ⟨z1, z2, z3⟩ := wp u hu
      exact ⟨by omega, by omega, z1⟩
    have hfw : ∀ u ∈ h_f K L (0, (f_5 K L false (0, t)).2 + 1), wTk K n u := fun u hu => by
      obtain ⟨z1, z2, z3⟩ := q1 u hu
      have z2' : (f_5 K L false (0, t)).2 + 1 ≤ u := z2
      exact ⟨by omega, by omega, z1⟩
    have hvw : ∀ u ∈ h_v K L (0, (f_5 K L false (0, t)).2 + 1), wTk K n u := fun u hu => by
      obtain ⟨z1, z2, z3⟩ := q2 u hu
      have z2' : (f_5 K L false (0, t)).2 + 1 ≤ u := z2
      exact ⟨by omega, by omega, z1⟩
    unfold twF
    rw [tw1_cg hQ _ [] nil hpw, anyF_cg hQ (fun p hp => fnP_w hD hlo hhi p (List.mem_of_mem_take hp)) w1 w3, tw1_cg hQ _ _ hpw hfw, tw1_cg hQ _ [(f_1 K L false (0, t)).2] (fun u hu => by rw [List.mem_singleton.mp hu]; exact w2) hvw]
  · rw [if_neg h6, if_neg h6]
    have hpt := (d3 h6).1
    have hd3 := (d3 h6).2
    have hty := ty_fw hpt
    have hfw := fo_wn hty.1
    have h5 := y5_le hty.1
    obtain ⟨p1, p2, p3⟩ := ty_pc (kd' := 0) (sg := 0) hpt
    have l2 : (y_5 K L false (0, t)).2 ≤ (p_ty K L false (0, t)).2 := by
      cases hst : tSt K L false (0, t) with
      | true => exact srtQ_le (p2 hst)
      | false => exact srtH_le (p3 hst)
    obtain ⟨-, -, -, -, k1, -, -, -⟩ := y5_fw hty.1
    have k1' : K (t + 1) = 1 := k1
    have hfo : ∀ u ∈ tFo K L false (0, t), wTk K n u := fun u hu => by
      obtain ⟨z1, z2, z3⟩ := hfw u hu
      exact ⟨by omega, by omega, z1⟩
    unfold twT
    rw [anyW_cg hQ (fun u hu => tNm_w hD hlo hhi u (List.mem_of_mem_take hu)) ⟨by omega, by omega, k1'⟩, tw1_cg hQ _ [] nil hfo]
    by_cases hst : tSt K L false (0, t) = true
    · have hym : y_m K L false (0, t) = m_s K L := if_pos hst
      rw [if_pos hst, if_pos hst, tw1_cg hQ _ [] nil (fun u hu => by
        have hu' := hu
        have ht2 := hty
        unfold tMe at hu'
        rw [hym] at hu' ht2
        obtain ⟨z1, z2, z3⟩ := ms_wn 7 _ ht2.2.2.1 u hu'
        have := ht2.2.2.2
        exact ⟨by omega, by omega, z1⟩)]
    · have hst' : tSt K L false (0, t) = false := by
        cases hh : tSt K L false (0, t) with
        | false => rfl
        | true => exact absurd hh hst
      rw [if_neg hst, if_neg hst, twH_cg hQ _ [] nil (fun z hz => ?_)]
      obtain ⟨j, hj, hj2⟩ := List.mem_iff_getElem.mp hz
      have hzj : (tMe K L false (0, t))[j]? = some z := by rw [List.getElem?_eq_getElem hj, hj2]
      obtain ⟨y1, y2, y3, y4, -⟩ := srtH_at _ _ _ j z (p3 hst') hzj
      have hdz : (dHd K L t)[j]? = some z := by
        unfold dHd
        rw [if_neg h6, if_neg hst]
        exact hzj
      have hps := dHd_ps hD h1 hdz
      refine ⟨⟨by omega, by omega, hps.2.1⟩, fun u hu => ?_⟩
      obtain ⟨z1, z2, z3⟩ := (hd_wn y2).1 u hu
      have z2' : z + 1 ≤ u := z2
      exact ⟨by omega, by omega, z1⟩
end WUC
