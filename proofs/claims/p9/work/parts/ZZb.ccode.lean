/-! ===== the class: addCode ===== -/
section ZZC
variable {d P : Nat} {s u w : zS} {a1 a2 a3 a4 a5 a6 v : Int32}
/-- only the code is another -/
def DFz (P : Nat) (s s' : zS) : Prop := (∀ r, ¬ r = P + 34 → s'.2 r = s.2 r) ∧ ∀ c k, ¬ (c = P + 34 ∧ k = 2) → s'.1 c k = s.1 c k
theorem DFz_rf : DFz P s s := ⟨fun _ _ => rfl, fun _ _ _ => rfl⟩
theorem DFz_tr (h : DFz P s u) (g : DFz P u w) : DFz P s w := ⟨fun r hr => (g.1 r hr).trans (h.1 r hr), fun c k hk => (g.2 c k hk).trans (h.2 c k hk)⟩
theorem DFz_za : DFz P s (za s (P + 34) v) := by
  unfold za
  split
  · exact ⟨fun r hr => by show (if r = P + 34 then _ else s.2 r) = s.2 r; rw [if_neg hr], fun c k hk => by rw [zf_1, if_neg hk]; rfl⟩
  · exact DFz_rf
theorem zs_59 (hP : P = 3 ∨ P = 39) (h1 : -1000 ≤ a1.toInt ∧ a1.toInt ≤ 100000) (h2 : -1000 ≤ a2.toInt ∧ a2.toInt ≤ 100000) (h3 : -1000 ≤ a3.toInt ∧ a3.toInt ≤ 100000) (h4 : -1000 ≤ a4.toInt ∧ a4.toInt ≤ 100000) (h5 : -1000 ≤ a5.toInt ∧ a5.toInt ≤ 100000) (h6 : -1000 ≤ a6.toInt ∧ a6.toInt ≤ 100000) : Zt (d + 9) (wd P 59) 59 [.ref P, .int a1, .int a2, .int a3, .int a4, .int a5, .int a6] s (fun v s' => v = none ∧ DFz P s s') := by
  refine zc_59 hP ?_
  unfold v_59_0
  refine ⟨h1, fun s1 hs1 => ⟨h2, fun s2 hs2 => ⟨h3, fun s3 hs3 => ⟨h4, fun s4 hs4 => ⟨h5, fun s5 hs5 => ⟨h6, fun s6 hs6 => ⟨rfl, ?_⟩⟩⟩⟩⟩⟩⟩
  rw [hs6]
  refine DFz_tr ?_ DFz_za
  rw [hs5]
  refine DFz_tr ?_ DFz_za
  rw [hs4]
  refine DFz_tr ?_ DFz_za
  rw [hs3]
  refine DFz_tr ?_ DFz_za
  rw [hs2]
  refine DFz_tr ?_ DFz_za
  rw [hs1]
  exact DFz_za
end ZZC
