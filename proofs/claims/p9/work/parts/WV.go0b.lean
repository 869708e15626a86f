/-! ===== the reference: goThrough the first time, a declaration ===== -/
section WVZ
variable {d : Nat} {s u : yS} {B b n lo hi x y t : Int} {K L W : Int → Int} {a2 : Int32} {Ls : List Int} {k : Nat}
theorem TYr_2 {D h : Int} (h2 : u.2 = s.2) (g : TYr K L B s D h x y t) : TYr K L B u D h x y t := TYr_W (fun p _ _ _ _ => by rw [h2]) g
set_option maxHeartbeats 1000000 in
theorem x_231z (hX : TXp K L n) (hb : 0 ≤ b) (hDc : dcC K L lo hi Ls) (hlo : 0 ≤ lo) (hhi : hi ≤ n) (hA : ALr K L B s b (204 * b) x y Ls) (hQ : WEQ K W B n s) (hK : RTk K L B n s) (h30 : (s.1 30).toInt = b) (hT24 : kTy K Ls ≤ 24) (hg : R8 s u) (h0 : (u.1 8).toInt = 0) (h1 : Ls[k]? = some t) (h2 : (K t = 6 → a2.toInt = 100 + (kFn K (Ls.take k) : Int)) ∧ (¬ K t = 6 → a2.toInt = (kTy K (Ls.take k) : Int))) : Par d 231 [.ref 213, .int 0, .int a2] u (fun v s' => v = none ∧ R8 s s' ∧ (s'.1 8).toInt = frst L (twD W K L Ls k t) 0) := by
  have er := hg.1
  have u30 : (u.1 30).toInt = b := by rw [hg.2 30 (by decide)]; exact h30
  have hQ' : ∀ v v', wTk K n v → wTk K n v' → (W v = W v' ↔ wRf B u v = wRf B u v') := fun v v' hv hv' => by
    unfold wRf
    rw [er]
    exact hQ v v' hv.1 hv.2.1 hv'.1 hv'.2.1 hv.2.2 hv'.2.2
  have hLr : ∀ v, 0 ≤ v → v ≤ n → lRf B u v = L v := fun v v0 v1 => by
    unfold lRf
    rw [er]
    exact (hK v v0 v1).2
  have cg : twD W K L Ls k t = twD (wRf B u) K L Ls k t := twD_cg hQ' hDc hlo hhi h1
  have hin : ∀ p ∈ twD W K L Ls k t, 0 ≤ p.1 ∧ p.1 ≤ n := fun p hp => by
    obtain ⟨d1, d2, d3⟩ := dcC_at Ls k t lo hi hDc h1
    unfold twD at hp
    by_cases h6 : K t = 6
    · rw [if_pos h6] at hp
      have := (srB_ge (srB_F (W := W) (F := (fnP K L Ls).take (kFn K (Ls.take k))) (d2 h6).1 (by omega))).2 p hp
      have := (d2 h6).2
      omega
    · rw [if_neg h6] at hp
      have := (srB_ge (srB_T (W := W) (E := (tNm K Ls).take (kTy K (Ls.take k))) (d3 h6).1 (by omega))).2 p hp
      have := (d3 h6).2
      omega
  have fcg : frst (lRf B u) (twD (wRf B u) K L Ls k t) 0 = frst L (twD W K L Ls k t) 0 := by
    rw [← cg]
    exact frst_cg _ _ (fun p hp => hLr p.1 (hin p hp).1 (hin p hp).2)
  have kl := k_lt (K := K) (L := L) Ls k t h1
  by_cases h6 : K t = 6
  · obtain ⟨-, f2⟩ := (hA k t h1).1 h6
    have f2u := FNr_W (s' := u) (fun p _ _ _ _ => by rw [er]) f2
    rw [if_pos h6, if_pos h6, if_pos h6] at kl
    obtain ⟨d1, d2, -⟩ := dcC_at Ls k t lo hi hDc h1
    obtain ⟨w1, w2, w3⟩ := fn_wd hDc hlo hhi h1 h6
    have hpf := (d2 h6).1
    have hfn := fn_fw hpf
    have wp := pa_wn hfn.1
    obtain ⟨e1, e2, e3, e4⟩ := fn_end hpf
    have hd2 := (d2 h6).2
    obtain ⟨f1', f2', f3', f4', f5', f6', f7', f8', f9', f10'⟩ := f7_fw hfn.1
    have e5' : (f_5 K L false (0, t)).2 = (f_4 K L false (0, t)).2 + 1 := by rw [f6']
    have hE : FEr B u (60 * b) (fnP K L Ls) := fun j p hp => by
      unfold fnP at hp
      rw [List.getElem?_map] at hp
      obtain ⟨t', ht', e⟩ := Option.map_eq_some_iff.mp hp
      obtain ⟨i', i1, i2, i3⟩ := fnL_inv Ls j t' ht'
      obtain ⟨-, ⟨⟨-, c2, -⟩, c6, ⟨⟨c7, -⟩, -⟩, -⟩⟩ := (hA i' t' i1).1 i2
      rw [← i3] at c2 c6
      rw [er, c6, ← e]
      exact ⟨c2, c7⟩
    refine Par.imp (x_231n (m := kFn K (Ls.take k)) (F := fnP K L Ls) u30 hb (h2.1 h6) (by omega) hE (by unfold fnP; rw [List.length_map, fnL_len]; omega) (by
      rw [hLr _ w3.1 w3.2.1]
      exact (hX.2.2 _ w3.1 w3.2.1).1) (fun v hv => by
      obtain ⟨z1, z2, z3⟩ := wp v hv
      rw [hLr v (by omega) (by omega)]
      exact (hX.2.2 v (by omega) (by omega)).1) f2u) ?_
    rintro v s' ⟨rfl, c1, c2⟩
    refine ⟨rfl, R8_tr hg c1, ?_⟩
    rw [c2, h0, ← fcg]
    unfold twD
    rw [if_pos h6]
  · obtain ⟨-, f2⟩ := (hA k t h1).2 h6
    rw [if_neg h6, if_neg h6, if_neg h6] at kl
    have hE : NTr B u 234 (24 * b) (tNm K Ls) := fun j v hv => by
      unfold tNm at hv
      rw [List.getElem?_map] at hv
      obtain ⟨t', ht', e⟩ := Option.map_eq_some_iff.mp hv
      obtain ⟨i', i1, i2, i3⟩ := tyL_inv Ls j t' ht'
      have c := ((hA i' t' i1).2 i2).2.1.1
      rw [← i3] at c
      rw [er, ← e]
      exact c
    refine Par.imp (x_231a (m := kTy K (Ls.take k)) (E := tNm K Ls) u30 hb (h2.2 h6) (by omega) (by omega) hE (by unfold tNm; rw [List.length_map, tyL_len]; omega) (TYr_2 er f2)) ?_
    rintro v s' ⟨rfl, c1, c2⟩
    refine ⟨rfl, R8_tr hg c1, ?_⟩
    rw [c2, h0, ← fcg]
    unfold twD
    rw [if_neg h6]
end WVZ
