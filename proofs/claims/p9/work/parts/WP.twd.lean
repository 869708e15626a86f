/-! ===== names told twice: a declaration's lists, in both ===== -/
section WPD
variable {K L W : Int → Int} {lo hi mi h t : Int} {inF : Bool} {k k' sg sg' : Int} {E : List Int} {F : List (Int × Int)}
theorem flt_ye {g : Int → Int} (hm : sg' = sg ∧ (k' = k ∨ (k = 0 ∧ k' = 1))) : ∀ l : List Int, (l.map (fun v => (v, k', g v, sg'))).filter (mtQ k sg) = l.map (fun v => (v, k', g v, sg'))
  | [] => rfl
  | v :: l => by
    rw [List.map_cons, List.filter_cons, show mtQ k sg (v, k', g v, sg') = true from decide_eq_true hm, flt_ye hm l]
    rfl
theorem flt_no {g : Int → Int} (hm : ¬ (sg' = sg ∧ (k' = k ∨ (k = 0 ∧ k' = 1)))) : ∀ l : List Int, (l.map (fun v => (v, k', g v, sg'))).filter (mtQ k sg) = []
  | [] => rfl
  | v :: l => by
    rw [List.map_cons, List.filter_cons, show mtQ k sg (v, k', g v, sg') = false from decide_eq_false hm, flt_no hm l]
    rfl
theorem map_fst {g : Int → Int} (l : List Int) : (l.map (fun v => (v, k', g v, sg'))).map Prod.fst = l := by
  rw [List.map_map]
  exact List.map_id' l
/-- a func's slots -/
theorem sl_fn (h1 : 0 ≤ (f_1 K L false (0, t)).2) (h2 : ∀ v ∈ fPa K L false (0, t), 0 ≤ v) (h3 : ∀ v ∈ h_f K L (f_6 K L false (0, t)), 0 ≤ v) (h4 : ∀ v ∈ h_v K L (f_6 K L false (0, t)), 0 ≤ v) : twQ W true [] (fSlt K L h false (0, t)) = ((f_1 K L false (0, t)).2, false) :: (tw1 W [] (fPa K L false (0, t)) ++ (tw1 W (fPa K L false (0, t)) (h_f K L (f_6 K L false (0, t))) ++ tw1 W [(f_1 K L false (0, t)).2] (h_v K L (f_6 K L false (0, t))))) := by
  unfold fSlt hSlt prS nmS
  show (if 0 ≤ (f_1 K L false (0, t)).2 ∧ (true = true ∨ ¬ (3 : Int) = 3) then [((f_1 K L false (0, t)).2, false)] else []) ++ twQ W true ([] ++ [((f_1 K L false (0, t)).2, 3, -1, h)]) _ = _
  rw [if_pos ⟨h1, Or.inl rfl⟩, List.nil_append, twQ_app, twQ_app, twQ_app, twQ_r, List.append_nil, twQ_b (Or.inl rfl) _ _ h2, twQ_b (Or.inl rfl) _ _ h3, twQ_b (Or.inl rfl) _ _ h4]
  have e1 : ([((f_1 K L false (0, t)).2, 3, -1, h)] : List (Int × Int × Int × Int)).filter (mtQ 1 h) = [] := by
    rw [List.filter_cons, show mtQ 1 h ((f_1 K L false (0, t)).2, 3, -1, h) = false from decide_eq_false (fun e => absurd e.2 (show ¬ ((3 : Int) = 1 ∨ ((1 : Int) = 0 ∧ (3 : Int) = 1)) by decide))]
    rfl
  have e2 : ([((f_1 K L false (0, t)).2, 3, -1, h)] : List (Int × Int × Int × Int)).filter (mtQ 0 h) = [] := by
    rw [List.filter_cons, show mtQ 0 h ((f_1 K L false (0, t)).2, 3, -1, h) = false from decide_eq_false (fun e => absurd e.2 (show ¬ ((3 : Int) = 0 ∨ ((0 : Int) = 0 ∧ (3 : Int) = 1)) by decide))]
    rfl
  have e3 : ([((f_1 K L false (0, t)).2, 3, -1, h)] : List (Int × Int × Int × Int)).filter (mtQ 3 h) = [((f_1 K L false (0, t)).2, 3, -1, h)] := by
    rw [List.filter_cons, show mtQ 3 h ((f_1 K L false (0, t)).2, 3, -1, h) = true from decide_eq_true ⟨rfl, Or.inl rfl⟩]
    rfl
  rw [e1, List.filter_append, e2, flt_ye ⟨rfl, Or.inr ⟨rfl, rfl⟩⟩, List.filter_append, List.filter_append, e3, flt_no (fun e => absurd e.2 (show ¬ ((1 : Int) = 3 ∨ ((3 : Int) = 0 ∧ (1 : Int) = 1)) by decide)), flt_no (fun e => absurd e.2 (show ¬ ((0 : Int) = 3 ∨ ((3 : Int) = 0 ∧ (0 : Int) = 1)) by decide)), List.nil_append, map_fst, List.append_nil, List.append_nil]
  rfl
/-- a struct's slots -/
theorem sl_st {l l' : List Int} (h1 : ∀ v ∈ l, 0 ≤ v) (h2 : ∀ v ∈ l', 0 ≤ v) : twQ W false [] (nmS 0 (-1) l ++ nmS 2 (-1) l') = tw1 W [] l ++ tw1 W [] l' := by
  unfold nmS
  rw [twQ_app, twQ_b (Or.inr (by decide)) _ _ h1, twQ_b (Or.inr (by decide)) _ _ h2, List.nil_append, flt_no (fun e => absurd e.2 (show ¬ ((0 : Int) = 2 ∨ ((2 : Int) = 0 ∧ (0 : Int) = 1)) by decide))]
  rfl
/-- an interface's heads -/
theorem sl_hs : ∀ (l : List Int) (h : Int) (pre : List (Int × Int × Int × Int)), (∀ x ∈ pre, x.2.2.2 < h) → (∀ z ∈ l, (∀ v ∈ h_f K L (0, z + 1), 0 ≤ v)) → twQ W false pre (hsL K L h l) = l.flatMap (fun z => tw1 W [] (h_f K L (0, z + 1)))
  | [], h, pre, _, _ => rfl
  | z :: l, h, pre, hp, hv => by
    have hf0 := hv z List.mem_cons_self
    have e0 : pre.filter (mtQ 0 h) = [] := by
      refine List.filter_eq_nil_iff.mpr (fun x hx hm => ?_)
      have := of_decide_eq_true hm
      have := hp x hx
      omega
    show twQ W false pre (hSlt K L h (0, z + 1) ++ hsL K L (h + 1) l) = tw1 W [] (h_f K L (0, z + 1)) ++ l.flatMap _
    have e1 : twQ W false pre (hSlt K L h (0, z + 1)) = tw1 W [] (h_f K L (0, z + 1)) := by
      unfold hSlt nmS
      rw [twQ_app, twQ_app, twQ_r, twQ_3 rfl, twQ_b (Or.inr (by decide)) _ _ hf0, e0, List.append_nil, List.append_nil]
      rfl
    rw [twQ_app, e1, sl_hs l (h + 1) _ (fun x hx => ?_) (fun z' hz => hv z' (List.mem_cons_of_mem _ hz))]
    rcases List.mem_append.mp hx with hx | hx
    · have := hp x hx
      omega
    · have hh : x ∈ hsL K L h [z] := by
        show x ∈ hSlt K L h (0, z + 1) ++ []
        rw [List.append_nil]
        exact hx
      obtain ⟨jj, j1, j2⟩ := hsL_sg [z] h x hh
      have : jj = 0 := by
        simp only [List.length_cons, List.length_nil] at j1
        omega
      subst this
      omega
theorem sl_in {l l' : List Int} (hh : 0 ≤ h) (h1 : ∀ v ∈ l, 0 ≤ v) (h2 : ∀ z ∈ l', (∀ v ∈ h_f K L (0, z + 1), 0 ≤ v)) : twQ W false [] (nmS 0 (-1) l ++ hsL K L h l') = tw1 W [] l ++ l'.flatMap (fun z => tw1 W [] (h_f K L (0, z + 1))) := by
  rw [twQ_app]
  have e1 : twQ W false [] (nmS 0 (-1) l) = tw1 W [] l := by
    unfold nmS
    rw [twQ_b (Or.inr (by decide)) _ _ h1]
    rfl
  rw [e1, sl_hs l' h _ (fun x hx => ?_) h2]
  rw [List.nil_append] at hx
  unfold nmS at hx
  obtain ⟨v, -, rfl⟩ := List.mem_map.mp hx
  show (-1 : Int) < h
  omega
theorem twH_m : ∀ (l pre : List Int) (v : Int), (v, true) ∈ twH W K L pre l ↔ (v, true) ∈ tw1 W pre l ∨ (v, true) ∈ l.flatMap (fun z => tw1 W [] (h_f K L (0, z + 1)))
  | [], pre, v => ⟨fun q => absurd q List.not_mem_nil, fun q => by rcases q with q | q <;> exact absurd q List.not_mem_nil⟩
  | z :: l, pre, v => by
    have ih := twH_m l (pre ++ [z]) v
    show (v, true) ∈ (z, anyW W pre z) :: (tw1 W [] (h_f K L (0, z + 1)) ++ twH W K L (pre ++ [z]) l) ↔ (v, true) ∈ (z, anyW W pre z) :: tw1 W (pre ++ [z]) l ∨ (v, true) ∈ tw1 W [] (h_f K L (0, z + 1)) ++ l.flatMap _
    constructor
    · intro q
      rcases List.mem_cons.mp q with e | q
      · exact Or.inl (by rw [e]; exact List.mem_cons_self)
      · rcases List.mem_append.mp q with q | q
        · exact Or.inr (List.mem_append.mpr (Or.inl q))
        · rcases ih.mp q with q | q
          · exact Or.inl (List.mem_cons_of_mem _ q)
          · exact Or.inr (List.mem_append.mpr (Or.inr q))
    · intro q
      rcases q with q | q
      · rcases List.mem_cons.mp q with e | q
        · rw [e]
          exact List.mem_cons_self
        · exact List.mem_cons_of_mem _ (List.mem_append.mpr (Or.inr (ih.mpr (Or.inl q))))
      · rcases List.mem_append.mp q with q | q
        · exact List.mem_cons_of_mem _ (List.mem_append.mpr (Or.inl q))
        · exact List.mem_cons_of_mem _ (List.mem_append.mpr (Or.inr (ih.mpr (Or.inr q))))
/-! order -/
theorem srB_t1 : ∀ (l pre : List Int) (lo hi : Int) (Sl : List (Int × Int × Int × Int)), srtQ K L lo hi Sl → Sl.map Prod.fst = l → (∀ v ∈ l, 0 ≤ v) → srB lo hi (tw1 W pre l)
  | [], pre, lo, hi, Sl, hs, _, _ => srtQ_le hs
  | v :: l, pre, lo, hi, Sl, hs, e, h0 => by
    cases Sl with
    | nil => cases e
    | cons q Sl =>
      have e1 : q.1 = v := (List.cons.inj e).1
      have e2 := (List.cons.inj e).2
      obtain ⟨ca, cb, c1, c2, c3, c4, c5⟩ := hs
      obtain ⟨d1, d2⟩ := c3 (by rw [e1]; exact h0 v List.mem_cons_self)
      rw [e1] at d1 d2
      exact ⟨d1, srB_lo (show v + 1 ≤ cb by omega) (srB_t1 l _ cb hi Sl c5 e2 (fun z hz => h0 z (List.mem_cons_of_mem _ hz)))⟩
theorem srB_hi {l : List (Int × Bool)} {hi' : Int} (hl : hi ≤ hi') (g : srB lo hi l) : srB lo hi' l := by
  have := srB_app (l' := []) (hi := hi') g hl
  rw [List.append_nil] at this
  exact this
theorem nmS_f {l : List Int} : (nmS k sg l).map Prod.fst = l := by
  unfold nmS
  exact map_fst l
theorem prS_f {l : List Int} : (prS sg l).map Prod.fst = l := by
  unfold prS
  exact map_fst l
theorem srB_th : ∀ (l pre : List Int) (lo hi : Int), srtH K L lo hi l → 0 ≤ lo → srB lo hi (twH W K L pre l)
  | [], pre, lo, hi, hs, _ => hs
  | z :: l, pre, lo, hi, hs, h0 => by
    obtain ⟨g1, g2, g3, g4⟩ := hs
    obtain ⟨p1, p2, p3, p4⟩ := hd_pc (kd' := 0) (sg := 0) g2
    have l2 := srtQ_le p2
    have hfw := (pt_fw 10 _ _ p3).2
    rw [← (pt_g 10 (by omega) false _ p3).2.2] at hfw
    have hfw' : (h_3 K L (0, z + 1)).2 < nxT K L (h_3 K L (0, z + 1)).2 := hfw
    have w1 := (hd_wn g2).1
    have hb : srB (z + 1) (h_2 K L (0, z + 1)).2 (tw1 W [] (h_f K L (0, z + 1))) := srB_t1 _ [] _ _ _ p1 nmS_f (fun v hv => by
      have : z + 1 ≤ v := (w1 v hv).2.1
      omega)
    exact ⟨g1, srB_app (srB_hi (show (h_2 K L (0, z + 1)).2 ≤ (p_hd K L (0, z + 1)).2 by omega) hb) (srB_th l _ _ hi g4 (by omega))⟩
/-- a type's list lies in order -/
theorem srB_T (hq : (p_ty K L false (0, t)).1 = 0) (h0 : 0 ≤ t) : srB (t + 1) (p_ty K L false (0, t)).2 (twT W K L E t) := by
  obtain ⟨p1, p2, p3⟩ := ty_pc (kd' := 0) (sg := 0) hq
  have hty := ty_fw hq
  have wf := fo_wn hty.1
  have h5 := y5_le hty.1
  have b1 : srB (t + 2) (y_5 K L false (0, t)).2 (tw1 W [] (tFo K L false (0, t))) := srB_t1 _ [] _ _ _ p1 nmS_f (fun v hv => by have := (wf v hv).2.1; omega)
  unfold twT
  refine ⟨Int.le_refl _, srB_app (srB_lo (show t + 1 + 1 ≤ t + 2 by omega) b1) ?_⟩
  by_cases hst : tSt K L false (0, t) = true
  · rw [if_pos hst]
    have hym : y_m K L false (0, t) = m_s K L := if_pos hst
    refine srB_t1 _ [] _ _ _ (p2 hst) nmS_f (fun v hv => ?_)
    unfold tMe at hv
    rw [hym] at hv hty
    have := (ms_wn 7 _ hty.2.2.1 v hv).2.1
    omega
  · rw [if_neg hst]
    have hst' : tSt K L false (0, t) = false := by
      cases hh : tSt K L false (0, t) with
      | false => rfl
      | true => exact absurd hh hst
    exact srB_th _ [] _ _ (p3 hst') (by omega)
/-- a func's list lies in order -/
theorem srB_F (hq : (p_fn K L false (0, t)).1 = 0) (h0 : 0 ≤ t) : srB (t + 1) (p_fn K L false (0, t)).2 (twF W K L F t) := by
  obtain ⟨e1, e2, e3, e4⟩ := fn_end hq
  have hfn := fn_fw hq
  obtain ⟨f1, f2, f3, f4, f5, f6, f7, f8, f9, f10⟩ := f7_fw hfn.1
  have h4 := f4_le hfn.1
  have e5 : (f_5 K L false (0, t)).2 = (f_4 K L false (0, t)).2 + 1 := by rw [f6]
  have wp := pa_wn hfn.1
  obtain ⟨w1, w2⟩ := hd_wn e2
  obtain ⟨p1, p2, p3, p4⟩ := hd_pc (kd' := 0) (sg := 0) e2
  have l1 : (f_5 K L false (0, t)).2 + 1 ≤ (h_2 K L (0, (f_5 K L false (0, t)).2 + 1)).2 := srtQ_le p1
  have l2 := srtQ_le p2
  have hfw := (pt_fw 10 _ _ p3).2
  rw [← (pt_g 10 (by omega) false _ p3).2.2] at hfw
  have hfw' : (h_3 K L (0, (f_5 K L false (0, t)).2 + 1)).2 < nxT K L (h_3 K L (0, (f_5 K L false (0, t)).2 + 1)).2 := hfw
  unfold twF
  refine srB_app (mi := (f_5 K L false (0, t)).2) ?_ ⟨Int.le_refl _, srB_app (mi := (h_2 K L (0, (f_5 K L false (0, t)).2 + 1)).2) ?_ (srB_hi (show (h_3 K L (0, (f_5 K L false (0, t)).2 + 1)).2 ≤ (p_fn K L false (0, t)).2 by omega) ?_)⟩
  · have f4' : f_3 K L false (0, t) = (0, t + 4) := f4
    unfold fPa
    rw [f4']
    by_cases hc : t_k K 91 ((0, t + 4) : RSt) = true
    · rw [if_pos hc]
      have e4' : f_4 K L false (0, t) = p_l K L (e_f K L) 93 7 (a_d (0, t + 4)) := by
        unfold f_4
        rw [f4', if_pos hc]
      have hp := f5
      rw [e4'] at hp
      have hs := srt_pr7 (sg := 0) hp
      rw [← e4'] at hs
      refine srB_hi (show (f_4 K L false (0, t)).2 ≤ (f_5 K L false (0, t)).2 by omega) (srB_lo (show t + 1 ≤ t + 4 + 1 by omega) (srB_t1 _ [] _ _ _ hs prS_f (fun v hv => ?_)))
      have := (pls_we 6 _ hp v hv).2.1
      have g : t + 4 + 1 ≤ v := this
      omega
    · rw [if_neg hc]
      show t + 1 ≤ (f_5 K L false (0, t)).2
      omega
  · exact srB_t1 _ _ _ _ _ p1 nmS_f (fun v hv => by
      have : (f_5 K L false (0, t)).2 + 1 ≤ v := (w1 v hv).2.1
      omega)
  · exact srB_t1 _ _ _ _ _ p2 nmS_f (fun v hv => by
      have : (f_5 K L false (0, t)).2 + 1 ≤ v := (w2 v hv).2.1
      omega)
end WPD
