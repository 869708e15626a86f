/-! ===== the class: TYPES in an E, told and looked at ===== -/
section ZZGP
variable {ar : Int → Int} {mv : List Int → List Int → List Int → Int} {Bf : Int → List (List Int)} {bn : Int → List Int} {tok tok' : Nat → Int} {c k : Int} {D A : List Int} {e p : Nat}
theorem bdGs_cg (ha : ∀ c, 0 ≤ ar c ∧ ar c ≤ 7) (hR : isR ar 1 (c :: D)) (h : ∀ q, q < p + (c :: D).length → tok q = tok' q) : bdGs mv Bf bn tok c (argT ar (c :: D)) p = bdGs mv Bf bn tok' c (argT ar (c :: D)) p := by
  obtain ⟨p1, p2, -⟩ := argT_ok ha hR
  unfold bdGs
  refine List.map_congr_left (fun i hi => ?_)
  have hi' := List.mem_range.mp hi
  have hv := List.getElem?_eq_getElem hi'
  have e1 := fl_take hv
  have e2 := fl_le (argT ar (c :: D)) (i + 1)
  have e3 := isR_ne (p2 _ (List.mem_of_getElem? hv))
  have e4 : 0 < ((argT ar (c :: D))[i]).length := List.length_pos_iff.mpr e3
  rw [p1] at e2
  rw [h (p + 1 + ((argT ar (c :: D)).take i).flatten.length) (by rw [List.length_cons]; omega)]
theorem bdO_cg (ha : ∀ c, 0 ≤ ar c ∧ ar c ≤ 7) (hA : isR ar k A) (h : ∀ q, q < A.length → tok q = tok' q) : ∀ j : Nat, j ≤ A.length → bdO ar (bdGs mv Bf bn tok) A e j = bdO ar (bdGs mv Bf bn tok') A e j
  | 0, _ => rfl
  | j + 1, hj => by
    have ha' : ∀ c, 0 ≤ ar c := fun c => (ha c).1
    obtain ⟨r1, -, D', r3⟩ := subT_ok ha' hA (List.getElem?_eq_getElem (show j < A.length by omega))
    have r4 := (subT_app (C := []) ha' hA (show j < A.length by omega)).2
    have ih := bdO_cg ha hA h j (by omega)
    show (if 0 < ar ((subT ar A j).headD 0) ∧ j + (subT ar A j).length = e then bdGs mv Bf bn tok ((subT ar A j).headD 0) (argT ar (subT ar A j)) j else []) ++ bdO ar (bdGs mv Bf bn tok) A e j = (if 0 < ar ((subT ar A j).headD 0) ∧ j + (subT ar A j).length = e then bdGs mv Bf bn tok' ((subT ar A j).headD 0) (argT ar (subT ar A j)) j else []) ++ bdO ar (bdGs mv Bf bn tok') A e j
    rw [ih, r3]
    rw [r3] at r1 r4
    rw [show (A[j] :: D').headD 0 = A[j] from rfl, bdGs_cg (mv := mv) (Bf := Bf) (bn := bn) (tok := tok) (tok' := tok') ha r1 (fun q hq => h q (by omega))]
theorem bdD_cg (ha : ∀ c, 0 ≤ ar c ∧ ar c ≤ 7) (hA : isR ar k A) (h : ∀ q, q < A.length → tok q = tok' q) : ∀ m : Nat, m ≤ A.length → bdD ar (bdGs mv Bf bn tok) A m = bdD ar (bdGs mv Bf bn tok') A m
  | 0, _ => rfl
  | m + 1, hm => by
    show bdD ar (bdGs mv Bf bn tok) A m ++ bdO ar (bdGs mv Bf bn tok) A (m + 1) (m + 1) = bdD ar (bdGs mv Bf bn tok') A m ++ bdO ar (bdGs mv Bf bn tok') A (m + 1) (m + 1)
    rw [bdD_cg ha hA h m (by omega), bdO_cg ha hA h (m + 1) hm]
theorem sub_60 (ha : ∀ c, 0 ≤ ar c) : ∀ (l : List (List Int)), (∀ y ∈ l, isR ar 1 y ∧ y.length ≤ 60) → ∀ j, j < l.flatten.length → (subT ar l.flatten j).length ≤ 60
  | [], _, j, hj => absurd hj (Nat.not_lt_zero _)
  | a :: l, h, j, hj => by
    obtain ⟨h1, h2⟩ := h a List.mem_cons_self
    rw [List.flatten_cons] at hj ⊢
    by_cases q : j < a.length
    · obtain ⟨g1, g2⟩ := subT_app (C := l.flatten) ha h1 q
      rw [g1]
      omega
    · rw [List.length_append] at hj
      have ih := sub_60 ha l (fun y hy => h y (List.mem_cons_of_mem _ hy)) (j - a.length) (by omega)
      unfold subT at ih ⊢
      rw [show j = a.length + (j - a.length) by omega, drop_len]
      exact ih
end ZZGP
section ZZGT
variable {K L W ar kd : Int → Int} {TN Ls hf tp : List Int} {n lo hi lo' hi' k0 T T0 k t : Int} {S : Scp} {d P : Nat} {s s' : zS} {a1 a2 : Int32} {mv : List Int → List Int → List Int → Int} {Bf : Int → List (List Int)} {bn : Int → List Int}
/-- the tokens' places, of TYPES side by side -/
def tokL (K L W ar : Int → Int) (TN hf tp : List Int) (ys : List Int) : List Int := ys.flatMap (fun y => (tlT K L (cdOf W hf tp TN) ar 10 y).2.map (fun q => L q.2))
theorem slG_fm (ha : ∀ c, 0 ≤ ar c ∧ ar c ≤ 7) : ∀ (ys : List Int), (∀ y ∈ ys, isR ar 1 (wdC K L W ar TN hf tp y)) → bdD ar (bdGs mv Bf bn (fun j => (tokL K L W ar TN hf tp ys).getD j 0)) (ys.map (wdC K L W ar TN hf tp)).flatten (ys.map (wdC K L W ar TN hf tp)).flatten.length = ys.flatMap (fun y => slG K L W ar mv Bf bn TN hf tp y)
  | [], _ => rfl
  | y :: ys, h => by
    have h1 := h y List.mem_cons_self
    have ih := slG_fm ha ys (fun z hz => h z (List.mem_cons_of_mem _ hz))
    have hl : (wdC K L W ar TN hf tp y).length = ((tlT K L (cdOf W hf tp TN) ar 10 y).2.map (fun q => L q.2)).length := by
      unfold wdC
      rw [List.length_map, List.length_map]
    have et : tokL K L W ar TN hf tp (y :: ys) = (tlT K L (cdOf W hf tp TN) ar 10 y).2.map (fun q => L q.2) ++ tokL K L W ar TN hf tp ys := by
      unfold tokL
      rw [List.flatMap_cons]
    rw [List.map_cons, List.flatten_cons, List.length_append, bdD_app (fun c => (ha c).1) h1, List.flatMap_cons, et]
    congr 1
    · unfold slG
      refine bdD_cg ha h1 (fun q hq => ?_) _ (Nat.le_refl _)
      unfold tokF
      rw [List.getD_eq_getElem?_getD, List.getD_eq_getElem?_getD, List.getElem?_append_left (by omega)]
    · rw [← ih]
      congr 1
      funext c X j
      unfold bdGs
      refine List.map_congr_left (fun i _ => ?_)
      dsimp only
      rw [show (wdC K L W ar TN hf tp y).length + j + 1 + (X.take i).flatten.length = (wdC K L W ar TN hf tp y).length + (j + 1 + (X.take i).flatten.length) by omega, List.getD_eq_getElem?_getD, List.getElem?_append_right (by omega), hl, Nat.add_sub_cancel_left, ← List.getD_eq_getElem?_getD]
/-- tell -/
theorem t_132 (hP : P = 3 ∨ P = 39) (h : PRm K L W ar kd n lo' hi' TN Ls) (I : CIn K L W ar kd TN Ls n k0 S P lo hi T0 s) (hf0 : (s.1 P 14).toInt = 0) (h1 : a1.toInt = t) (h2 : a2.toInt = 1) (ht : 0 ≤ t) (hp : (p_t K L 10 false (0, t)).1 = 0) (hn : nxT K L t ≤ n) (hlo : lo ≤ t) (hhi : nxT K L t ≤ hi) (hk : (s.1 P 10).toInt = k) (hk1 : 18738 ≤ k) (hk2 : k + (nxT K L t - t) ≤ 82870) : Zt (d + 22) (wd P 132) 132 [.ref 83, .int a1, .int a2] s (fun v s' => ∃ r : Int32, v = some (.int r) ∧ TLq P k t (nxT K L t) (tlT K L (cdOf W S.1 S.2.1 TN) ar 10 t) s s' r) := by
  have e := (pt_g (K := K) (L := L) 10 (by decide) false t hp).2.2
  have key := zs_132 (P := P) (K := K) (L := L) (W := W) (ar := ar) (n := n) (hf := S.1) (tp := S.2.1) (TN := TN) hP h.1.1 10 (Nat.le_refl _) a1 a2 t k s h1 (by rw [h2]; decide) ht hp (by rw [← e]; exact hn) hf0 hk hk1 (by rw [← e]; exact hk2) (fun q q1 q2 q3 => (I.2.2.1 q (by omega) (by rw [← e] at q2; omega)).1 q3) ⟨I.1.1.1, I.1.1.2.1, I.1.1.2.2.1, I.2.1⟩
  rw [← e] at key
  exact Zt.mo (by omega) key
/-- lookAtBounds over TYPES side by side -/
theorem t_135 (hP : P = 3 ∨ P = 39) (h : PRm K L W ar kd n lo' hi' TN Ls) (I : CIn K L W ar kd TN Ls n k0 S P lo hi T0 s) (l1 : S.1.length ≤ 6) (l2 : S.2.1.length ≤ 6) (hf0 : (s.1 P 14).toInt = 0) (ht : (s.1 75 3).toInt = T) (hT : 18 ≤ T ∧ T + 180 ≤ 18738) {ys : List Int} (hy6 : ys.length ≤ 60) (hys : ∀ y ∈ ys, (tlT K L (cdOf W S.1 S.2.1 TN) ar 10 y).1 = 0 ∧ (p_t K L 10 false (0, y)).1 = 0 ∧ 0 ≤ y ∧ nxT K L y ≤ n) (hw : WDz P s a1.toInt (ys.map (wdC K L W ar TN S.1 S.2.1)).flatten) (htt : TTz P s a1.toInt (ys.flatMap (fun y => (tlT K L (cdOf W S.1 S.2.1 TN) ar 10 y).2.map Prod.snd))) (h1 : 18738 ≤ a1.toInt ∧ a1.toInt + ((ys.map (wdC K L W ar TN S.1 S.2.1)).flatten.length : Int) ≤ 82877) (h2 : a2.toInt = a1.toInt + ((ys.map (wdC K L W ar TN S.1 S.2.1)).flatten.length : Int)) : Zt (d + 12) (wd P 135) 135 [.ref 83, .int a1, .int a2] s (fun v s' => v = none ∧ RFz P T s s' ∧ (∀ b q, ¬ (b = P ∧ q = 14) → s'.1 b q = s.1 b q) ∧ (s'.1 P 14).toInt = ffs (ys.flatMap (fun y => slG K L W ar (mvD K L W ar kd TN Ls) (Bfd K L W ar TN Ls) S.2.2.1 TN S.1 S.2.1 y))) := by
  obtain ⟨ha, h24⟩ := PR_ar h
  have hnT := PR_nT h
  have hc24 := h.2.2.1
  have C := I.1
  have hok : ∀ y ∈ ys, isR ar 1 (wdC K L W ar TN S.1 S.2.1 y) ∧ (wdC K L W ar TN S.1 S.2.1 y).length ≤ 60 ∧ cdW (S.2.1.length : Int) (S.1.length : Int) (wdC K L W ar TN S.1 S.2.1 y) ∧ cdT (TN.length : Int) (wdC K L W ar TN S.1 S.2.1 y) := fun y hy => by
    obtain ⟨q1, q2, -⟩ := hys y hy
    obtain ⟨o1, o2, o3, o4, -⟩ := wdC_ok (K := K) (L := L) (W := W) ha l1 l2 (by omega) q1 q2
    exact ⟨o1, o2, o3, o4⟩
  have hmm : ∀ x ∈ ys.map (wdC K L W ar TN S.1 S.2.1), isR ar 1 x ∧ x.length ≤ 60 ∧ cdW (S.2.1.length : Int) (S.1.length : Int) x ∧ cdT (TN.length : Int) x := fun x hx => by
    obtain ⟨y, hy, rfl⟩ := List.mem_map.mp hx
    exact hok y hy
  have hcA : ∀ c ∈ (ys.map (wdC K L W ar TN S.1 S.2.1)).flatten, ∃ x, (cdW (S.2.1.length : Int) (S.1.length : Int) x ∧ cdT (TN.length : Int) x) ∧ c ∈ x := fun c hc => by
    obtain ⟨x, hx, hcx⟩ := List.mem_flatten.mp hc
    exact ⟨x, (hmm x hx).2.2, hcx⟩
  have hcW : cdW (S.2.1.length : Int) (S.1.length : Int) (ys.map (wdC K L W ar TN S.1 S.2.1)).flatten := fun c hc => by
    obtain ⟨x, ⟨q1, -⟩, q2⟩ := hcA c hc
    exact q1 c q2
  have hcT : cdT (TN.length : Int) (ys.map (wdC K L W ar TN S.1 S.2.1)).flatten := fun c hc => by
    obtain ⟨x, ⟨-, q1⟩, q2⟩ := hcA c hc
    exact q1 c q2
  have hfl := fl_60 (ys.map (wdC K L W ar TN S.1 S.2.1)) (fun x hx => (hmm x hx).2.1)
  rw [List.length_map] at hfl
  have hlen : (ys.map (wdC K L W ar TN S.1 S.2.1)).flatten.length = (tokL K L W ar TN S.1 S.2.1 ys).length ∧ (tokL K L W ar TN S.1 S.2.1 ys).length = (ys.flatMap (fun y => (tlT K L (cdOf W S.1 S.2.1 TN) ar 10 y).2.map Prod.snd)).length ∧ ∀ (j : Nat) (v : Int), (ys.flatMap (fun y => (tlT K L (cdOf W S.1 S.2.1 TN) ar 10 y).2.map Prod.snd))[j]? = some v → (tokL K L W ar TN S.1 S.2.1 ys)[j]? = some (L v) := by
    have e1 : tokL K L W ar TN S.1 S.2.1 ys = (ys.flatMap (fun y => (tlT K L (cdOf W S.1 S.2.1 TN) ar 10 y).2.map Prod.snd)).map L := by
      unfold tokL
      rw [List.map_flatMap]
      congr 1
      funext y
      rw [List.map_map]
      rfl
    have e2 : (ys.map (wdC K L W ar TN S.1 S.2.1)).flatten = (ys.flatMap (fun y => (tlT K L (cdOf W S.1 S.2.1 TN) ar 10 y).2)).map Prod.fst := by
      rw [← List.flatMap_def, List.map_flatMap]
      rfl
    have e3 : ys.flatMap (fun y => (tlT K L (cdOf W S.1 S.2.1 TN) ar 10 y).2.map Prod.snd) = (ys.flatMap (fun y => (tlT K L (cdOf W S.1 S.2.1 TN) ar 10 y).2)).map Prod.snd := by
      rw [List.map_flatMap]
    refine ⟨?_, ?_, fun j v hv => ?_⟩
    · rw [e1, e2, e3, List.length_map, List.length_map, List.length_map]
    · rw [e1, List.length_map]
    · rw [e1, List.getElem?_map, hv]
      rfl
  have hLp := C.1.1.2.1
  rw [← slG_fm (mv := mvD K L W ar kd TN Ls) (Bf := Bfd K L W ar TN Ls) (bn := S.2.2.1) ha ys (fun y hy => (hok y hy).1)]
  have emv : mvD K L W ar kd TN Ls = mvS ar kd (cfO K L W TN Ls) (kFn K Ls) (hdd K L W ar TN Ls) P s := by
    rw [cz_mv h C]
    rfl
  rw [emv]
  refine zs_135 (k := (ys.length : Int)) (L := L) hP ha h24 (cz_lk h C) hc24.2 C.2.2.2.2.2.2.2.2 ht hT hf0 ?_ (by omega) (sub_60 (fun c => (ha c).1) _ (fun x hx => ⟨(hmm x hx).1, (hmm x hx).2.1⟩)) (fun c hc => ⟨(hcW c hc).1, (hcW c hc).2.1⟩) hw ⟨h1.1, by omega⟩ h2 (cz_bf h C hcT) (CI_sp h I hcW) hLp (fun q hq => ?_)
  · have := isR_fl (a := ar) (ys.map (wdC K L W ar TN S.1 S.2.1)) (fun x hx => (hmm x hx).1)
    rw [List.length_map] at this
    exact this
  · have hq' : q < (ys.flatMap (fun y => (tlT K L (cdOf W S.1 S.2.1 TN) ar 10 y).2.map Prod.snd)).length := by omega
    have hv := List.getElem?_eq_getElem hq'
    have e1 := htt q _ hv
    have e2 : (tokL K L W ar TN S.1 S.2.1 ys).getD q 0 = L (ys.flatMap (fun y => (tlT K L (cdOf W S.1 S.2.1 TN) ar 10 y).2.map Prod.snd))[q] := by
      rw [List.getD_eq_getElem?_getD, hlen.2.2 q _ hv]
      rfl
    obtain ⟨y, hy, hm⟩ := List.mem_flatMap.mp (List.mem_of_getElem? hv)
    obtain ⟨pr, hpr, epr⟩ := List.mem_map.mp hm
    obtain ⟨y1, y2, y3, y4⟩ := hys y hy
    have e3 := tlT_tk 10 _ (by decide) y2 y1 _ hpr
    rw [epr] at e3
    have e4 := h.1.1.2.2 (ys.flatMap (fun y => (tlT K L (cdOf W S.1 S.2.1 TN) ar 10 y).2.map Prod.snd))[q] (by omega) (by omega)
    show (tokL K L W ar TN S.1 S.2.1 ys).getD q 0 = _ ∧ 0 ≤ (tokL K L W ar TN S.1 S.2.1 ys).getD q 0 ∧ (tokL K L W ar TN S.1 S.2.1 ys).getD q 0 ≤ 5000
    rw [e2, show a1.toInt + (q : Int) - 18738 = a1.toInt - 18738 + (q : Int) by omega, e1]
    exact ⟨rfl, e4.1, by omega⟩
end ZZGT
