/-! ===== names told twice: the answers of the class's looks ===== -/
def tNm (K : Int → Int) (Ls : List Int) : List Int := (tyL K Ls).map (fun t => t + 1)
def fnP (K L : Int → Int) (Ls : List Int) : List (Int × Int) := (fnL K Ls).map (fun t => ((f_2 K L false (0, t)).2, (f_5 K L false (0, t)).2))
/-- the names of declaration i, with whether each was told ahead -/
def twD (W K L : Int → Int) (Ls : List Int) (i : Nat) (t : Int) : List (Int × Bool) := if K t = 6 then twF W K L ((fnP K L Ls).take (kFn K (Ls.take i))) t else twT W K L ((tNm K Ls).take (kTy K (Ls.take i))) t
def SA (W K L : Int → Int) (Ls : List Int) (v : Int) : Prop := ∃ (i : Nat) (t : Int), Ls[i]? = some t ∧ (v, true) ∈ twD W K L Ls i t
/-- what the three looks answer -/
def anD (W K L : Int → Int) (Ls : List Int) (i : Nat) (t : Int) : Int := fT (twQ W (decide (K t = 6)) [] (sDc K L (kHd K L (Ls.take i) : Int) t))
def anT (W K L : Int → Int) (Ls : List Int) (i : Nat) (t : Int) : Int := if anyW W ((tNm K Ls).take (kTy K (Ls.take i))) (t + 1) = true then t + 1 else if tSt K L false (0, t) = true then 1000000 else fT (tw1 W [] (tMe K L false (0, t)))
def anF (W K L : Int → Int) (Ls : List Int) (i : Nat) (t : Int) : Int := if anyF W ((fnP K L Ls).take (kFn K (Ls.take i))) (f_2 K L false (0, t)).2 (f_5 K L false (0, t)).2 = true then (f_5 K L false (0, t)).2 else 1000000
def AN (W K L : Int → Int) (Ls : List Int) (a : Int) : Prop := ∃ (i : Nat) (t : Int), Ls[i]? = some t ∧ (a = anD W K L Ls i t ∨ (¬ K t = 6 ∧ a = anT W K L Ls i t) ∨ (K t = 6 ∧ a = anF W K L Ls i t))
section WQA
variable {K L W : Int → Int} {lo hi h t : Int} {inF : Bool} {Ls : List Int} {i : Nat}
theorem fT_in : ∀ l : List (Int × Bool), fT l = 1000000 ∨ (fT l, true) ∈ l
  | [] => Or.inl rfl
  | p :: l => by
    show (if p.2 = true then p.1 else fT l) = 1000000 ∨ ((if p.2 = true then p.1 else fT l), true) ∈ p :: l
    by_cases hb : p.2 = true
    · rw [if_pos hb]
      right
      rw [← hb]
      exact List.mem_cons_self
    · rw [if_neg hb]
      rcases fT_in l with e | e
      · exact Or.inl e
      · exact Or.inr (List.mem_cons_of_mem _ e)
theorem fT_le {l : List (Int × Bool)} (hs : srB lo hi l) {v : Int} (hv : (v, true) ∈ l) : fT l ≤ v := by
  rcases fT_mn l lo hi hs with ⟨-, a2⟩ | ⟨-, a2⟩
  · exact absurd hv (a2 v)
  · exact a2 v hv
theorem srB_Q : ∀ (l pre : List (Int × Int × Int × Int)) (lo hi : Int), srtQ K L lo hi l → srB lo hi (twQ W inF pre l)
  | [], pre, lo, hi, hs => hs
  | q :: l, pre, lo, hi, hs => by
    obtain ⟨ca, cb, c1, c2, c3, c4, c5⟩ := hs
    have ih := srB_Q l (pre ++ [q]) cb hi c5
    show srB lo hi ((if 0 ≤ q.1 ∧ (inF = true ∨ ¬ q.2.1 = 3) then [(q.1, (pre.filter (mtQ q.2.1 q.2.2.2)).any (fun q' => decide (W q'.1 = W q.1)))] else []) ++ twQ W inF (pre ++ [q]) l)
    by_cases hc : 0 ≤ q.1 ∧ (inF = true ∨ ¬ q.2.1 = 3)
    · rw [if_pos hc]
      obtain ⟨d1, d2⟩ := c3 hc.1
      exact ⟨d1, srB_lo (show q.1 + 1 ≤ cb by omega) ih⟩
    · rw [if_neg hc]
      exact srB_lo (show lo ≤ cb by omega) ih
theorem srB_mh : ∀ (l pre : List Int) (lo hi : Int), srtH K L lo hi l → srB lo hi (tw1 W pre l)
  | [], pre, lo, hi, hs => hs
  | z :: l, pre, lo, hi, hs => by
    obtain ⟨g1, g2, g3, g4⟩ := hs
    exact ⟨g1, srB_lo (show z + 1 ≤ (p_hd K L (0, z + 1)).2 by omega) (srB_mh l _ _ hi g4)⟩
/-- the slots' list of a declaration lies in the declaration's -/
theorem slD (hD : dcC K L lo hi Ls) (hlo : 0 ≤ lo) (h1 : Ls[i]? = some t) (v : Int) : ((v, true) ∈ twQ W (decide (K t = 6)) [] (sDc K L (kHd K L (Ls.take i) : Int) t) → (v, true) ∈ twD W K L Ls i t) ∧ ((v, true) ∈ twD W K L Ls i t → (v, true) ∈ twQ W (decide (K t = 6)) [] (sDc K L (kHd K L (Ls.take i) : Int) t) ∨ (¬ K t = 6 ∧ v = t + 1 ∧ anyW W ((tNm K Ls).take (kTy K (Ls.take i))) (t + 1) = true) ∨ (¬ K t = 6 ∧ tSt K L false (0, t) = false ∧ (v, true) ∈ tw1 W [] (tMe K L false (0, t))) ∨ (K t = 6 ∧ v = (f_5 K L false (0, t)).2 ∧ anyF W ((fnP K L Ls).take (kFn K (Ls.take i))) (f_2 K L false (0, t)).2 (f_5 K L false (0, t)).2 = true)) := by
  obtain ⟨d1, d2, d3⟩ := dcC_at Ls i t lo hi hD h1
  unfold twD sDc
  by_cases h6 : K t = 6
  · rw [if_pos h6, if_pos h6, decide_eq_true h6]
    have hpf := (d2 h6).1
    have hfn := fn_fw hpf
    obtain ⟨e1, e2, e3, e4⟩ := fn_end hpf
    obtain ⟨f1, f2, f3, f4, f5, f6, f7, f8, f9, f10⟩ := f7_fw hfn.1
    have e5 : (f_5 K L false (0, t)).2 = (f_4 K L false (0, t)).2 + 1 := by rw [f6]
    have e6 : f_6 K L false (0, t) = (0, (f_5 K L false (0, t)).2 + 1) := by
      rw [f7, e5]
      show ((0 : Int), (f_4 K L false (0, t)).2 + 2) = (0, (f_4 K L false (0, t)).2 + 1 + 1)
      rw [show (f_4 K L false (0, t)).2 + 2 = (f_4 K L false (0, t)).2 + 1 + 1 by omega]
    obtain ⟨w1, w2⟩ := hd_wn e2
    have wp := pa_wn hfn.1
    have f2' : (f_1 K L false (0, t)).2 = t + 2 := by rw [f2]
    rw [sl_fn (by omega) (fun x hx => by have := (wp x hx).2.1; omega) (fun x hx => by rw [e6] at hx; have : (f_5 K L false (0, t)).2 + 1 ≤ x := (w1 x hx).2.1; omega) (fun x hx => by rw [e6] at hx; have : (f_5 K L false (0, t)).2 + 1 ≤ x := (w2 x hx).2.1; omega), e6]
    unfold twF
    constructor
    · intro hv
      rcases List.mem_cons.mp hv with e | hv
      · have := congrArg Prod.snd e
        cases this
      · rcases List.mem_append.mp hv with hv | hv
        · exact List.mem_append.mpr (Or.inl hv)
        · exact List.mem_append.mpr (Or.inr (List.mem_cons_of_mem _ hv))
    · intro hv
      rcases List.mem_append.mp hv with hv | hv
      · exact Or.inl (List.mem_cons_of_mem _ (List.mem_append.mpr (Or.inl hv)))
      · rcases List.mem_cons.mp hv with e | hv
        · exact Or.inr (Or.inr (Or.inr ⟨h6, congrArg Prod.fst e, (congrArg Prod.snd e).symm⟩))
        · exact Or.inl (List.mem_cons_of_mem _ (List.mem_append.mpr (Or.inr hv)))
  · rw [if_neg h6, if_neg h6, decide_eq_false h6]
    have hty := ty_fw (d3 h6).1
    have wf := fo_wn hty.1
    have h5 := y5_le hty.1
    unfold tSlt twT
    by_cases hst : tSt K L false (0, t) = true
    · rw [if_pos hst, if_pos hst]
      have hym : y_m K L false (0, t) = m_s K L := if_pos hst
      rw [sl_st (fun x hx => by have := (wf x hx).2.1; omega) (fun x hx => by
        have hx' := hx
        have ht2 := hty
        unfold tMe at hx'
        rw [hym] at hx' ht2
        have := (ms_wn 7 _ ht2.2.2.1 x hx').2.1
        omega)]
      constructor
      · exact fun hv => List.mem_cons_of_mem _ hv
      · intro hv
        rcases List.mem_cons.mp hv with e | hv
        · exact Or.inr (Or.inl ⟨h6, congrArg Prod.fst e, (congrArg Prod.snd e).symm⟩)
        · exact Or.inl hv
    · rw [if_neg hst, if_neg hst]
      have hst' : tSt K L false (0, t) = false := by
        cases hh : tSt K L false (0, t) with
        | false => rfl
        | true => exact absurd hh hst
      obtain ⟨p1, p2, p3⟩ := ty_pc (kd' := 0) (sg := 0) (d3 h6).1
      rw [sl_in (by omega) (fun x hx => by have := (wf x hx).2.1; omega) (fun z hz x hx => by
        obtain ⟨j, hj, hj2⟩ := List.mem_iff_getElem.mp hz
        obtain ⟨y1, y2, y3, y4, -⟩ := srtH_at _ _ _ j z (p3 hst') (by rw [List.getElem?_eq_getElem hj, hj2])
        have : z + 1 ≤ x := ((hd_wn y2).1 x hx).2.1
        omega)]
      constructor
      · intro hv
        rcases List.mem_append.mp hv with hv | hv
        · exact List.mem_cons_of_mem _ (List.mem_append.mpr (Or.inl hv))
        · exact List.mem_cons_of_mem _ (List.mem_append.mpr (Or.inr ((twH_m _ [] v).mpr (Or.inr hv))))
      · intro hv
        rcases List.mem_cons.mp hv with e | hv
        · exact Or.inr (Or.inl ⟨h6, congrArg Prod.fst e, (congrArg Prod.snd e).symm⟩)
        · rcases List.mem_append.mp hv with hv | hv
          · exact Or.inl (List.mem_append.mpr (Or.inl hv))
          · rcases (twH_m _ [] v).mp hv with hv | hv
            · exact Or.inr (Or.inr (Or.inl ⟨h6, hst', hv⟩))
            · exact Or.inl (List.mem_append.mpr (Or.inr hv))
/-- the answers are enough -/
theorem AN_1 (hD : dcC K L lo hi Ls) (hlo : 0 ≤ lo) {a : Int} (ha : AN W K L Ls a) : a = 1000000 ∨ SA W K L Ls a := by
  obtain ⟨i, t, h1, h2⟩ := ha
  rcases h2 with e | ⟨h6, e⟩ | ⟨h6, e⟩
  · rw [e]
    unfold anD
    rcases fT_in (twQ W (decide (K t = 6)) [] (sDc K L (kHd K L (Ls.take i) : Int) t)) with q | q
    · exact Or.inl q
    · exact Or.inr ⟨i, t, h1, (slD hD hlo h1 _).1 q⟩
  · rw [e]
    unfold anT
    by_cases hb : anyW W ((tNm K Ls).take (kTy K (Ls.take i))) (t + 1) = true
    · rw [if_pos hb]
      refine Or.inr ⟨i, t, h1, ?_⟩
      unfold twD twT
      rw [if_neg h6, hb]
      exact List.mem_cons_self
    · rw [if_neg hb]
      by_cases hst : tSt K L false (0, t) = true
      · rw [if_pos hst]
        exact Or.inl rfl
      · rw [if_neg hst]
        rcases fT_in (tw1 W [] (tMe K L false (0, t))) with q | q
        · exact Or.inl q
        · refine Or.inr ⟨i, t, h1, ?_⟩
          unfold twD twT
          rw [if_neg h6, if_neg hst]
          exact List.mem_cons_of_mem _ (List.mem_append.mpr (Or.inr ((twH_m _ [] _).mpr (Or.inl q))))
  · rw [e]
    unfold anF
    by_cases hb : anyF W ((fnP K L Ls).take (kFn K (Ls.take i))) (f_2 K L false (0, t)).2 (f_5 K L false (0, t)).2 = true
    · rw [if_pos hb]
      refine Or.inr ⟨i, t, h1, ?_⟩
      unfold twD twF
      rw [if_pos h6, hb]
      exact List.mem_append.mpr (Or.inr List.mem_cons_self)
    · rw [if_neg hb]
      exact Or.inl rfl
theorem AN_2 (hD : dcC K L lo hi Ls) (hlo : 0 ≤ lo) {v : Int} (hv : SA W K L Ls v) : ∃ a, AN W K L Ls a ∧ a ≤ v := by
  obtain ⟨i, t, h1, h2⟩ := hv
  obtain ⟨d1, d2, d3⟩ := dcC_at Ls i t lo hi hD h1
  rcases (slD hD hlo h1 v).2 h2 with q | ⟨h6, e, hb⟩ | ⟨h6, hst, q⟩ | ⟨h6, e, hb⟩
  · refine ⟨_, ⟨i, t, h1, Or.inl rfl⟩, ?_⟩
    unfold anD
    by_cases h6 : K t = 6
    · have hs := srt_fn (h := (kHd K L (Ls.take i) : Int)) (fn_fw (d2 h6).1).1
      refine fT_le (lo := t + 2) (hi := (f_7 K L false (0, t)).2) ?_ q
      unfold sDc
      rw [if_pos h6]
      exact srB_Q _ [] _ _ hs
    · have hs := srt_ty (h := (kHd K L (Ls.take i) : Int)) (d3 h6).1
      refine fT_le (lo := t + 2) (hi := (p_ty K L false (0, t)).2) ?_ q
      unfold sDc
      rw [if_neg h6]
      exact srB_Q _ [] _ _ hs
  · refine ⟨_, ⟨i, t, h1, Or.inr (Or.inl ⟨h6, rfl⟩)⟩, ?_⟩
    unfold anT
    rw [if_pos hb, e]
    exact Int.le_refl _
  · refine ⟨_, ⟨i, t, h1, Or.inr (Or.inl ⟨h6, rfl⟩)⟩, ?_⟩
    have hs := (ty_pc (kd' := 0) (sg := 0) (d3 h6).1).2.2 hst
    have hs2 := srB_mh (W := W) _ [] _ _ hs
    unfold anT
    by_cases hb : anyW W ((tNm K Ls).take (kTy K (Ls.take i))) (t + 1) = true
    · rw [if_pos hb]
      have := ((srB_ge hs2).2 _ q).1
      have g : (y_5 K L false (0, t)).2 ≤ v := this
      have := y5_le (ty_fw (d3 h6).1).1
      omega
    · rw [if_neg hb, if_neg (by rw [hst]; decide)]
      exact fT_le hs2 q
  · refine ⟨_, ⟨i, t, h1, Or.inr (Or.inr ⟨h6, rfl⟩)⟩, ?_⟩
    unfold anF
    rw [if_pos hb, e]
    exact Int.le_refl _
theorem SA_lt (hD : dcC K L lo hi Ls) (hlo : 0 ≤ lo) (hhi : hi ≤ 4000) {v : Int} (hv : SA W K L Ls v) : lo ≤ v ∧ v < hi := by
  obtain ⟨i, t, h1, h2⟩ := hv
  obtain ⟨d1, d2, d3⟩ := dcC_at Ls i t lo hi hD h1
  unfold twD at h2
  by_cases h6 : K t = 6
  · rw [if_pos h6] at h2
    have := (srB_ge (srB_F (W := W) (F := (fnP K L Ls).take (kFn K (Ls.take i))) (d2 h6).1 (by omega))).2 _ h2
    have g1 : t + 1 ≤ v := this.1
    have g2 : v < (p_fn K L false (0, t)).2 := this.2
    have := (d2 h6).2
    omega
  · rw [if_neg h6] at h2
    have := (srB_ge (srB_T (W := W) (E := (tNm K Ls).take (kTy K (Ls.take i))) (d3 h6).1 (by omega))).2 _ h2
    have g1 : t + 1 ≤ v := this.1
    have g2 : v < (p_ty K L false (0, t)).2 := this.2
    have := (d3 h6).2
    omega
end WQA
