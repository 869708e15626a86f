/-! ===== the reference's run beside the pure machine: TYPES, STEPS ===== -/
def nE (E : List Int) : List Nat := E.map Int.toNat
/-- a TYPE of the class's codes as the reference's elements -/
def enN (ar : Int → Int) (β0 β1 : Int) (A : List Int) : List Nat := nE (A.map (rhE ar β0 β1))
section ZUA
variable {ar kd : Int → Int} {nT β0 β1 l : Int} {s s' : yS} {A : List Int} {E : Env} {b0 b1 p : Nat} {X Y : List (List Int)}
theorem nE_len {E : List Int} : (nE E).length = E.length := by unfold nE; rw [List.length_map]
theorem enN_len : (enN ar β0 β1 A).length = A.length := by unfold enN; rw [nE_len, List.length_map]
/-- elements that stand in ty -/
theorem seg_of {E : List Int} (h : RWel s (p : Int) E) : seg s p E.length = nE E := by
  refine List.ext_getElem? (fun i => ?_)
  unfold nE
  rw [List.getElem?_map]
  by_cases hi : i < E.length
  · rw [seg_get hi, List.getElem?_eq_getElem hi]
    have := h i _ (List.getElem?_eq_getElem hi)
    rw [show (p : Int) + (i : Int) = ((p + i : Nat) : Int) by omega, KI_n] at this
    show some (tyE s (p + i)) = some (E[i].toNat)
    unfold tyE
    rw [this]
  · rw [List.getElem?_eq_none (by rw [seg_len]; omega), List.getElem?_eq_none (by omega)]
    rfl
theorem RWel_of {E : List Int} (hT : TYN s) (h0 : ∀ x ∈ E, 0 ≤ x) (h : seg s p E.length = nE E) : RWel s (p : Int) E := fun i c hc => by
  have hi := (List.getElem?_eq_some_iff.mp hc).1
  have e := congrArg (fun l => l[i]?) h
  have e : (seg s p E.length)[i]? = (nE E)[i]? := e
  unfold nE at e
  rw [seg_get hi, List.getElem?_map, hc] at e
  have e : tyE s (p + i) = c.toNat := Option.some.inj e
  unfold tyE at e
  have := hT (p + i)
  have c0 := h0 c (List.mem_of_getElem? hc)
  rw [show (p : Int) + (i : Int) = ((p + i : Nat) : Int) by omega, KI_n]
  omega
theorem rhE_0 {c : Int} (h : c < 24) : rhE ar β0 β1 c = 8 * c + ar c := by
  unfold rhE rhC
  rw [if_pos h]
/-- without PARAMS -/
theorem enN_0 {γ0 γ1 : Int} (h : ∀ c ∈ A, c < 24) : enN ar β0 β1 A = enN ar γ0 γ1 A := by
  have e : A.map (rhE ar β0 β1) = A.map (rhE ar γ0 γ1) := List.map_congr_left (fun c hc => by rw [rhE_0 (h c hc), rhE_0 (h c hc)])
  unfold enN
  rw [e]
theorem enN_nn (ha : ∀ c, 0 ≤ ar c ∧ ar c ≤ 7) (hb : 0 ≤ β0 ∧ 0 ≤ β1) (h : ∀ c ∈ A, 0 ≤ c) : ∀ x ∈ A.map (rhE ar β0 β1), 0 ≤ x := fun x hx => by
  obtain ⟨c, hc, rfl⟩ := List.mem_map.mp hx
  have := ha c
  have := h c hc
  unfold rhE rhC
  split
  · omega
  · split
    · omega
    · split <;> omega
theorem cd_cl (h : cdW 0 0 A) : ∀ c ∈ A, 0 ≤ c ∧ c < 24 := fun c hc => by
  obtain ⟨h1, h2, h3, h4⟩ := h c hc
  refine ⟨h1, ?_⟩
  rcases Int.lt_or_le c 24 with q | q
  · exact q
  · rcases Int.lt_or_le c 30 with q2 | q2
    · have := h3 q q2
      omega
    · have := h4 q2
      omega
theorem sbs_cl {η : Nat → List Int} (h : ∀ c ∈ A, c < 24) : sbs η A = A := by
  unfold sbs
  induction A with
  | nil => rfl
  | cons c A ih =>
    rw [List.flatMap_cons, if_pos (h c List.mem_cons_self), ih (fun c hc => h c (List.mem_cons_of_mem _ hc))]
    rfl
/-- what is put, in the reference -/
def eRl (ar : Int → Int) (b0 b1 : Nat) (β0 β1 : Int) (As Bs : List (List Nat)) (E : Env) : Prop := (As = E.1.map (enN ar 0 0) ∧ Bs = E.2.map (enN ar 0 0)) ∧ (E = ([], []) ∨ ((b0 : Int) = β0 ∧ (b1 : Int) = β1 ∧ bOK β0 β1))
theorem subs_enN (ha : ∀ c, 0 ≤ ar c ∧ ar c ≤ 7) (hb : bOK (b0 : Int) (b1 : Int)) (hX : X.length ≤ 6) (hX0 : ∀ B ∈ X, ∀ c ∈ B, c < 24) (hY0 : ∀ B ∈ Y, ∀ c ∈ B, c < 24) : ∀ A : List Int, cdW (X.length : Int) (Y.length : Int) A → subs (envS b0 (X.map (enN ar 0 0)) b1 (Y.map (enN ar 0 0))) (enN ar (b0 : Int) (b1 : Int) A) = enN ar 0 0 (sbs (eta X Y) A)
  | [], _ => rfl
  | c :: A, h => by
    have ih := subs_enN ha hb hX hX0 hY0 A (fun c hc => h c (List.mem_cons_of_mem _ hc))
    obtain ⟨h1, h2, h3, h4⟩ := h c List.mem_cons_self
    have hac := ha c
    have e1 : enN ar (b0 : Int) (b1 : Int) (c :: A) = (rhE ar (b0 : Int) (b1 : Int) c).toNat :: enN ar (b0 : Int) (b1 : Int) A := rfl
    have e2 : ∀ D : List Int, enN ar 0 0 (D ++ sbs (eta X Y) A) = enN ar 0 0 D ++ enN ar 0 0 (sbs (eta X Y) A) := fun D => by
      unfold enN nE
      rw [List.map_append, List.map_append]
    have e3 : sbs (eta X Y) (c :: A) = (if c < 24 then [c] else eta X Y (c - 24).toNat) ++ sbs (eta X Y) A := rfl
    rw [e1, subs_cons, ih, e3, e2]
    congr 1
    unfold bOK at hb
    by_cases q : c < 24
    · rw [if_pos q, rhE_0 q]
      rw [sub_none (envS_lt (by omega))]
      show [(8 * c + ar c).toNat] = enN ar 0 0 [c]
      show _ = [(rhE ar 0 0 c).toNat]
      rw [rhE_0 q]
    · rw [if_neg q]
      by_cases q2 : c < 30
      · have hk := h3 (by omega) q2
        have er : rhE ar (b0 : Int) (b1 : Int) c = 8 * ((b0 : Int) + (c - 24)) + ar c := by
          unfold rhE rhC
          rw [if_neg q, if_pos q2]
        have ed : (rhE ar (b0 : Int) (b1 : Int) c).toNat / 8 = b0 + (c - 24).toNat := by rw [er]; omega
        have hkl : (c - 24).toNat < X.length := by omega
        have hg : envS b0 (X.map (enN ar 0 0)) b1 (Y.map (enN ar 0 0)) ((rhE ar (b0 : Int) (b1 : Int) c).toNat / 8) = some (enN ar 0 0 X[(c - 24).toNat]) := by
          rw [ed]
          refine envS_1 (by omega) ?_
          unfold grp
          rw [if_pos (by omega), show b0 + (c - 24).toNat - b0 = (c - 24).toNat by omega, List.getElem?_map, List.getElem?_eq_getElem hkl]
          rfl
        rw [sub_some hg]
        have ee : eta X Y (c - 24).toNat = X[(c - 24).toNat] := by
          unfold eta
          rw [if_pos (by omega), if_pos hkl, List.getD_eq_getElem?_getD, List.getElem?_eq_getElem hkl]
          rfl
        rw [ee]
      · have hk := h4 (by omega)
        have er : rhE ar (b0 : Int) (b1 : Int) c = 8 * ((b1 : Int) + (c - 30)) + ar c := by
          unfold rhE rhC
          rw [if_neg q, if_neg q2, if_pos h2]
        have ed : (rhE ar (b0 : Int) (b1 : Int) c).toNat / 8 = b1 + (c - 30).toNat := by rw [er]; omega
        have hkl : (c - 30).toNat < Y.length := by omega
        have hn : grp b0 (X.map (enN ar 0 0)) (b1 + (c - 30).toNat) = none := by
          refine grp_none ?_
          rw [List.length_map]
          omega
        have hg : envS b0 (X.map (enN ar 0 0)) b1 (Y.map (enN ar 0 0)) ((rhE ar (b0 : Int) (b1 : Int) c).toNat / 8) = some (enN ar 0 0 Y[(c - 30).toNat]) := by
          rw [ed, envS_2 (by omega) hn]
          unfold grp
          rw [if_pos (by omega), show b1 + (c - 30).toNat - b1 = (c - 30).toNat by omega, List.getElem?_map, List.getElem?_eq_getElem hkl]
          rfl
        rw [sub_some hg]
        have ee : eta X Y (c - 24).toNat = Y[(c - 30).toNat] := by
          unfold eta
          rw [if_neg (by omega), if_pos (by omega), List.getD_eq_getElem?_getD, show (c - 24).toNat - 6 = (c - 30).toNat by omega, List.getElem?_eq_getElem hkl]
          rfl
        rw [ee]
/-- a TYPE of an E, put -/
theorem put_enN {As Bs : List (List Nat)} (ha : ∀ c, 0 ≤ ar c ∧ ar c ≤ 7) (hE : enK ar nT E) (hR : eRl ar b0 b1 β0 β1 As Bs E) (hA : TGo ar nT (E.1.length : Int) (E.2.length : Int) A) : subs (envS b0 As b1 Bs) (enN ar β0 β1 A) = enN ar 0 0 (sbs (eta E.1 E.2) A) ∧ ((∀ x ∈ enN ar β0 β1 A, x / 8 < 1000) ↔ ∀ c ∈ A, c < 24) := by
  obtain ⟨⟨hA1, hB1⟩, hR⟩ := hR
  have cl : (∀ c ∈ A, c < 24) → ∀ x ∈ enN ar β0 β1 A, x / 8 < 1000 := fun h x hx => by
    unfold enN nE at hx
    rw [List.map_map] at hx
    obtain ⟨c, hc, rfl⟩ := List.mem_map.mp hx
    have := ha c
    have := h c hc
    show (rhE ar β0 β1 c).toNat / 8 < 1000
    rw [rhE_0 (h c hc)]
    omega
  rcases hR with rfl | ⟨rfl, rfl, hb⟩
  · have c0 : ∀ c ∈ A, c < 24 := fun c hc => (cd_cl hA.2.2 c hc).2
    refine ⟨?_, ⟨fun _ => c0, cl⟩⟩
    rw [subs_lt (fun c hc => envS_lt hc) (cl c0), sbs_cl c0]
    exact enN_0 c0
  · have x0 : ∀ B ∈ E.1, ∀ c ∈ B, c < 24 := fun B hB c hc => (cd_cl (hE.2.1 B hB).2.2 c hc).2
    have y0 : ∀ B ∈ E.2, ∀ c ∈ B, c < 24 := fun B hB c hc => (cd_cl (hE.2.2 B hB).2.2 c hc).2
    refine ⟨?_, ⟨fun h c hc => ?_, cl⟩⟩
    · rw [hA1, hB1]
      exact subs_enN ha hb hE.1.1 x0 y0 A hA.2.2
    · rcases Int.lt_or_le c 24 with q | q
      · exact q
      · exfalso
        have := h (rhE ar (b0 : Int) (b1 : Int) c).toNat (by
          unfold enN nE
          rw [List.map_map]
          exact List.mem_map.mpr ⟨c, hc, rfl⟩)
        have hac := ha c
        obtain ⟨h1, h2, h3, h4⟩ := hA.2.2 c hc
        unfold bOK at hb
        unfold rhE rhC at this
        rw [if_neg (by omega)] at this
        by_cases q2 : c < 30
        · rw [if_pos q2] at this
          omega
        · rw [if_neg q2, if_pos h2] at this
          omega
theorem lft_u {u : Int} (h : usd u s s') (h6 : s'.1 96 = s.1 96) : lft s' = lft s - u := by
  unfold lft
  rw [h6, h.1, h.2]
  omega
/-- putForRun does what the pure machine does -/
theorem pt_link {r : Int} {N : Nat} (hA : (∀ x ∈ enN ar β0 β1 A, x / 8 < 1000) ↔ ∀ c ∈ A, c < 24) (hN : N = (sbs (eta E.1 E.2) A).length) (hq : ptQ (enN ar β0 β1 A) N r s s') (h6 : s'.1 96 = s.1 96) (hl : lft s = l) (h0 : 0 ≤ l) : lft s' = (ptT E A l).2.2 ∧ 0 ≤ lft s' ∧ (ptT E A l).1 = (if r = 0 then 5 else r) ∧ (r = 0 ∨ r = 4 ∨ r = 2) ∧ (r = 0 → (ptT E A l).2.1 = sbs (eta E.1 E.2) A) := by
  unfold ptQ at hq
  rw [hA, hN] at hq
  unfold ptT
  rcases hq with ⟨h1, h2, h3⟩ | ⟨h1, ⟨h2, h3, h4⟩ | ⟨h2, h3, h4, h5⟩ | ⟨h2, h3, h4, h5⟩⟩
  · have e := lft_u h3 h6
    rw [if_pos h1, if_pos h2]
    exact ⟨by show lft s' = l; omega, by omega, rfl, Or.inl h2, fun _ => (sbs_cl h1).symm⟩
  · have e := lft_u h4 h6
    rw [if_neg h1, if_pos h2, if_neg (by omega)]
    exact ⟨by show lft s' = l; omega, by omega, h3.symm, Or.inr (Or.inl h3), fun q => by omega⟩
  · have e := lft_u h5 h6
    rw [if_neg h1, if_neg (by omega), if_pos (by omega), if_pos h4]
    exact ⟨by show lft s' = l - _; omega, by omega, rfl, Or.inl h4, fun _ => rfl⟩
  · have e := lft_u h5 h6
    rw [if_neg h1, if_neg (by omega), if_neg (by omega), if_neg (by omega)]
    exact ⟨by show lft s' = 0; omega, by omega, h4.symm, Or.inr (Or.inr h4), fun q => by omega⟩
end ZUA
