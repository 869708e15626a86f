/-! ===== keptWords ===== -/
/-- behind k signs of the kept words: the number so far, the words -/
def kst : Nat → Int64 × List (Int64 × Int64)
  | 0 => (0, [])
  | k + 1 => if (xch 0 (Int32.ofNat k)).toInt = 32 then (0, (kst k).2 ++ [((kst k).1, 0)]) else (64 * (kst k).1 + Int64.ofInt (rkc (xch 0 (Int32.ofNat k)).toInt), (kst k).2)
section TKW
variable {d : Nat} {s s' : yS} {b : Int}
theorem toI64 {r : Int32} : Int32.toInt64 r = Int64.ofInt r.toInt := rfl
theorem kst_no : ∀ k, k < 39 → (xch 0 (Int32.ofNat k)).toInt = 32 → ((kst k).1, (0 : Int64)) ∉ (kst k).2 := by decide +kernel
theorem ofN_eq {x : Int32} {k : Nat} (h : x.toInt = (k : Int)) (hk : k < 100) : x = Int32.ofNat k := by
  have e := iN (n := k) (by omega)
  exact Int32.toInt_inj.mp (by rw [h, e])
set_option maxHeartbeats 2000000 in
theorem x_161 (h9 : (s.1 9).toInt = b) (hb : 0 ≤ b) : Par d 161 [.ref 213] s (fun v s' => v = none ∧ WTb b (kst 39).2 s' ∧ WFs b s s') := by
  cases d with
  | zero => exact Par_0
  | succ d =>
    refine pb_161 ?_
    unfold ub_161_0
    rw [h9]
    intro _ s1 hs1
    have e1 : s1.1 = s.1 := by rw [hs1]; rfl
    have r1 : ∀ q i, s1.2.1 q i = if q = 220 ∧ i = b.toNat then 0 else s.2.1 q i := fun q i => by rw [hs1, sa_21]
    refine ⟨fun a1 a3 t => ∃ k : Nat, a3.toInt = (k : Int) ∧ k ≤ 39 ∧ a1 = (kst k).1 ∧ WTb b (kst k).2 t ∧ WFs b s t, ⟨0, by decide, by omega, rfl, ⟨by rw [r1, if_pos ⟨rfl, rfl⟩]; rfl, fun i p hp => by cases hp⟩, e1, fun q i hq => by rw [r1, if_neg hq]⟩, ?_⟩
    rintro a1 a3 t ⟨k, g1, g2, g3, g4, g5⟩
    unfold ub_161_10
    refine ⟨fun w => ?_, fun w _ => ?_⟩
    · have : k = 39 := by omega
      subst this
      exact ⟨rfl, g4, g5⟩
    · have hk : k < 39 := by omega
      have ea : a3 = Int32.ofNat k := ofN_eq g1 (by omega)
      have h9t : (t.1 9).toInt = b := by rw [g5.1]; exact h9
      refine ⟨fun hc => ?_, fun hc => ?_⟩
      · refine Par.imp x_158 ?_
        rintro v2 s2 ⟨rfl, x3, rfl, hx3⟩
        refine ⟨x3, rfl, ?_⟩
        unfold ub_161_37
        intro _ x4 hx4
        have es : kst (k + 1) = (64 * (kst k).1 + Int64.ofInt (rkc (xch 0 (Int32.ofNat k)).toInt), (kst k).2) := by
          show (if (xch 0 (Int32.ofNat k)).toInt = 32 then _ else _) = _
          rw [← ea, if_neg hc]
        refine ⟨k + 1, by omega, by omega, ?_, ?_, g5⟩
        · rw [es, g3, toI64, hx3, ea]
        · rw [es]
          exact g4
      · refine Par.imp (x_160 h9t hb g4) ?_
        rintro v5 s4 ⟨x6, q, Wl', rfl, hq, hA, hW, hF⟩
        refine ⟨x6, rfl, ?_⟩
        unfold ub_161_37
        intro _ x7 hx7
        have es : kst (k + 1) = (0, (kst k).2 ++ [((kst k).1, 0)]) := by
          show (if (xch 0 (Int32.ofNat k)).toInt = 32 then _ else _) = _
          rw [← ea, if_pos hc]
        have eW : Wl' = (kst k).2 ++ [((kst k).1, 0)] := by
          rcases hA.2 with e | ⟨e, -⟩
          · exfalso
            have h1 := hA.1
            rw [e, g3] at h1
            exact kst_no k hk (by rw [← ea]; exact hc) (List.mem_of_getElem? h1)
          · rw [e, g3]
        refine ⟨k + 1, by omega, by omega, by rw [es], ?_, hF.1.trans g5.1, fun p i hp => (hF.2 p i hp).trans (g5.2 p i hp)⟩
        rw [es, ← eW]
        exact hW
end TKW
