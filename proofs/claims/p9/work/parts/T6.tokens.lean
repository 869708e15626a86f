/-! ===== tokens of the class, tokens of the reference ===== -/
/-- a kept word's signs -/
def kwg (w i : Nat) : Int32 := Int32.ofInt ((kwl w).getD i 0)
section TTK
variable {sg sg' : Nat → Int32} {n k e j l w q P : Nat} {r B b : Int} {Wl : List (Int64 × Int64)} {so wo : Int} {s0 z : zS} {s t : yS}
theorem kw_1 : ∀ w, w < 7 → 1 ≤ w → (kst 39).2[w - 1]? = some (ecw (kwg w) 0 (kwl w).length) := by decide +kernel
theorem kw_2 : ∀ w, w < 7 → ∀ i, i < (kwl w).length → (kwg w (0 + i)).toInt = (kwl w).getD i 0 ∧ isLt (kwg w (0 + i)).toInt = true := by decide +kernel
theorem kw_3 : ∀ w, w < 7 → (kwl w).length ≤ 12 := by decide +kernel
theorem kw_4 : (kst 39).2.length = 6 := by decide +kernel
theorem nd_inj {α : Type} : ∀ (l : List α) (i j : Nat) (p : α), l.Nodup → l[i]? = some p → l[j]? = some p → i = j
  | [], i, j, p, _, h, _ => by cases h
  | a :: l, 0, 0, p, _, _, _ => rfl
  | a :: l, 0, j + 1, p, hn, h1, h2 => by
    exfalso
    have e : a = p := by simpa using h1
    have h2' : l[j]? = some p := by simpa using h2
    rw [← e] at h2'
    exact (List.nodup_cons.mp hn).1 (List.mem_of_getElem? h2')
  | a :: l, i + 1, 0, p, hn, h1, h2 => by
    exfalso
    have e : a = p := by simpa using h2
    have h1' : l[i]? = some p := by simpa using h1
    rw [← e] at h1'
    exact (List.nodup_cons.mp hn).1 (List.mem_of_getElem? h1')
  | a :: l, i + 1, j + 1, p, hn, h1, h2 => by
    have := nd_inj l i j p (List.nodup_cons.mp hn).2 (by simpa using h1) (by simpa using h2)
    omega
/-- a kept word's number -/
theorem kw_is (hN : Wl.Nodup) (hP : Pre (kst 39).2 Wl) (hw : w < 7) (hw1 : 1 ≤ w) (hs : spm sg k l w) (hq : Wl[q]? = some (ecw sg k l)) : q = w - 1 := by
  have e : ecw sg k l = ecw (kwg w) 0 (kwl w).length := by
    rw [hs.1]
    refine ecw_cg (fun i hi => ?_)
    rw [(kw_2 w hw i hi).1]
    exact hs.2 i (by rw [hs.1]; exact hi)
  exact nd_inj Wl q (w - 1) _ hN hq (by rw [e]; exact hP _ _ (kw_1 w hw hw1))
theorem kw_no (hP : Pre (kst 39).2 Wl) (hl : l ≤ 12) (hc : ∀ i, i < l → isLt (sg (k + i)).toInt = true ∨ isDg (sg (k + i)).toInt = true) (hno : ∀ w, w < 7 → 1 ≤ w → ¬ spm sg k l w) (hq : Wl[q]? = some (ecw sg k l)) : 6 ≤ q := by
  rcases Nat.lt_or_ge q 6 with h | h
  · exfalso
    have h1 := kw_1 (q + 1) (by omega) (by omega)
    rw [show q + 1 - 1 = q by omega] at h1
    have h2 := hP _ _ h1
    rw [hq] at h2
    have h3 := Option.some.inj h2
    obtain ⟨e1, e2⟩ := ecw_inj hl (kw_3 (q + 1) (by omega)) hc (fun i hi => Or.inl (kw_2 (q + 1) (by omega) i hi).2) h3
    refine hno (q + 1) (by omega) (by omega) ⟨e1, fun i hi => ?_⟩
    rw [e2 i hi, (kw_2 (q + 1) (by omega) i (by omega)).1]
  · exact h
/-- one token, told by both -/
theorem tk_same (hA : Agr n sg sg') (hW : WEd sg n k e) (hk : kdP sg k (e - k) r) (ht : tkr sg' k (e - k) Wl so wo) (hN : Wl.Nodup) (hP : Pre (kst 39).2 Wl) : kR r so wo := by
  have hke := hW.1
  have hen := hW.2.1
  have ek : sg' k = sg k := hA k (by omega)
  unfold tkr at ht
  rw [ek] at ht
  rcases hk with ⟨hl, h⟩ | ⟨hl, h⟩
  · have ht := ht.1 hl
    have hch := wd_ch hl hW
    rcases h with ⟨h12, hr⟩ | ⟨h12, hF⟩
    · exact Or.inr (Or.inr (Or.inl ⟨hr, ht.2 h12⟩))
    · obtain ⟨h1, q, h2, h3⟩ := ht.1 h12
      have ee : ecw sg' k (e - k) = ecw sg k (e - k) := ecw_cg (fun i hi => by rw [hA (k + i) (by omega)])
      rw [ee] at h3
      rcases hF with ⟨w, w1, w2, w3, w4⟩ | ⟨hr, hno⟩
      · have := kw_is hN hP w1 w2 w3 h3
        exact Or.inr (Or.inr (Or.inr (Or.inl ⟨by omega, by omega, h1, by omega⟩)))
      · have := kw_no hP h12 (fun i hi => hch i (by omega)) hno h3
        exact Or.inr (Or.inl ⟨hr, h1, by omega⟩)
  · have ht := ht.2 hl
    rcases h with ⟨hs, hr⟩ | ⟨hs, hr⟩
    · obtain ⟨h1, h2⟩ := ht.1 hs
      have h9 : 9 ≤ (sg k).toInt := by
        unfold sgB at hs
        simp at hs
        omega
      exact Or.inr (Or.inr (Or.inr (Or.inr ⟨by omega, h1, by omega⟩)))
    · exact Or.inr (Or.inr (Or.inl ⟨hr, ht.2 hs⟩))
/-- the class's text and the reference's, of the same tape: the same tokens -/
theorem RTk_of (hX : TXT s0 P n z) (hn : n ≤ 4000) (hC : CAq sg' B b n s t) (hB : 0 ≤ B) (hA : Agr n (z.2 (P + 2)) sg') : RTk (KI (z.2 (P + 4))) (KI (z.2 (P + 6))) B (ntk (z.2 (P + 2)) n) t ∧ TXp (KI (z.2 (P + 4))) (KI (z.2 (P + 6))) (ntk (z.2 (P + 2)) n) := by
  obtain ⟨-, x2, x3, x4, x5, x6, x7⟩ := hX
  obtain ⟨⟨Wl, c1, c2, c3, c4⟩, c5, c6, c7, c8, c9, c10⟩ := hC
  have hle := ntk_le (sg := z.2 (P + 2)) (k := n)
  have en : ntk sg' n = ntk (z.2 (P + 2)) n := ag_ntk hA n (Nat.le_refl _)
  rw [en] at c5 c6
  refine ⟨fun i i0 i1 => ?_, by omega, ?_, fun i i0 i1 => ?_⟩
  · obtain ⟨q, rfl⟩ : ∃ q : Nat, i = (q : Int) := ⟨i.toNat, by omega⟩
    rw [KI_n, KI_n]
    by_cases hq : q < ntk (z.2 (P + 2)) n
    · obtain ⟨j, j1, j2, j3⟩ := ntk_sur n q hq
      obtain ⟨e, y1, y2, y3, y4⟩ := x4 j j1 j2
      have hst : stt sg' j = true := by rw [ag_stt hA j1]; exact j2
      obtain ⟨e', w1, w2, w3⟩ := c1 j j1 hst
      have ej : ntk sg' j = ntk (z.2 (P + 2)) j := ag_ntk hA j (by omega)
      rw [ej, j3] at w2 w3
      rw [j3] at y2 y3 y4
      have ee : e = e' := WEd_un y1 (ag_WEd hA w1)
      subst ee
      exact ⟨tk_same hA y1 y4 w3 c3 c4, by rw [w2, y2]⟩
    · have eq1 : q = ntk (z.2 (P + 2)) n := by omega
      subst eq1
      rw [x5, x6, c5, c6]
      exact ⟨Or.inl ⟨rfl, rfl⟩, rfl⟩
  · rw [KI_n]
    exact x5
  · obtain ⟨q, rfl⟩ : ∃ q : Nat, i = (q : Int) := ⟨i.toNat, by omega⟩
    rw [KI_n]
    exact (x3.2.1 q (by omega)).1
/-- two names are one, in both -/
def WEQ (K : Int → Int) (Wd : Int → Int) (B : Int) (n : Int) (t : yS) : Prop := ∀ i j : Int, 0 ≤ i → i ≤ n → 0 ≤ j → j ≤ n → K i = 1 → K j = 1 → (Wd i = Wd j ↔ (t.2.1 217 (B + i).toNat).toInt = (t.2.1 217 (B + j).toNat).toInt)
end TTK
