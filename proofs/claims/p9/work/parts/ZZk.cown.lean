/-! ===== the class: the type that tells a type's METHODS ===== -/
section ZZOW
variable {K L W ar kd : Int → Int} {TN Ls : List Int} {n lo hi lo' hi' B b β0 β1 k0 c T T0 k r : Int} {S : Scp} {d P i : Nat} {s s' u : zS} {a1 a2 : Int32} {A A' : List Int}
theorem cz_bk (h : PRm K L W ar kd n lo hi TN Ls) (C : CSz K L W ar kd TN Ls n k0 P u) (h0 : 0 ≤ c) (hc : c < (kTy K Ls : Int)) : SSk P u k0 (tyc u P c 2) (Bfd K L W ar TN Ls c) := by
  obtain ⟨i, t, h1, h6, rfl⟩ := ty_dc (K := K) (Ls := Ls) h0 hc
  obtain ⟨-, e0, e2, e3, e4⟩ := (C.2.2.2.2.2.1 i t h1).1.2 h6
  have eb := (tb_ty (W := W) (ar := ar) (TN := TN) (L := L) h1 h6).1
  rw [e2, eb]
  have ed : dTp K L t = tFo K L false (0, t) := if_neg h6
  have key := cz_sk C h1 (j0 := 0) (hf := []) (S := nmS 0 (-1) (tFo K L false (0, t))) (fun k x hk => ?_)
  · rw [ed, Nat.add_zero] at key
    have em : (nmS 0 (-1) (tFo K L false (0, t))).map (fun x => wdC K L W ar TN [] (tFo K L false (0, t)) x.2.2.1) = (tFo K L false (0, t)).map (fun v => wdC K L W ar TN [] (tFo K L false (0, t)) (v + 1)) := by
      unfold nmS
      rw [List.map_map]
      rfl
    rw [em] at key
    exact key
  · have hk2 := (List.getElem?_eq_some_iff.mp hk).1
    rw [nmS_len] at hk2
    have hv := List.getElem?_eq_getElem hk2
    have e5 := nmS_at (kd' := 0) (sg := -1) hv
    rw [hk] at e5
    have e6 : x = ((tFo K L false (0, t))[k], 0, (tFo K L false (0, t))[k] + 1, -1) := Option.some.inj e5
    refine ⟨?_, ?_, ?_⟩
    · unfold sDc
      rw [if_neg h6, Nat.zero_add]
      unfold tSlt
      rw [List.getElem?_append_left (by rw [nmS_len]; exact hk2)]
      exact hk
    · rw [e6]
      have := ((ty_fact h h1 h6).1 _ (List.mem_of_getElem? hv)).1
      show 0 ≤ (tFo K L false (0, t))[k] + 1
      omega
    · rw [e6]
      exact hfS_n
theorem gD_at {α : Type} {l : List (List α)} {j : Nat} (h : j < l.length) : l[j]? = some (l.getD j []) := by
  rw [List.getD_eq_getElem?_getD, List.getElem?_eq_getElem h]
  rfl
/-- where it stands -/
theorem own_tc (hW : EWd K L W ar kd TN Ls n lo' hi' B b β0 β1 S) (I : CIn K L W ar kd TN Ls n k0 S P lo hi T0 s) (hk0 : k0 ≤ k) (hA : TYc ar (TN.length : Int) (S.2.1.length : Int) (S.1.length : Int) P T k s r (c :: A')) : TYc ar (TN.length : Int) (S.2.1.length : Int) (S.1.length : Int) P T k s (if c < 24 then r else if c < 30 then slc s P (tyc s P (s.1 75 4).toInt 2 + (c - 24)) 3 else slc s P (sgc s P (s.1 75 6).toInt 2 + (c - 30)) 3) (ownT S.2.2.1 (c :: A')) := by
  by_cases h24 : c < 24
  · rw [if_pos h24, show ownT S.2.2.1 (c :: A') = c :: A' from if_pos h24]
    exact hA
  · rw [if_neg h24, show ownT S.2.2.1 (c :: A') = S.2.2.1 c from if_neg h24]
    have hP := hW.1
    obtain ⟨q1, q2, q3, q4⟩ := hA.2.2.2.2 c List.mem_cons_self
    obtain ⟨o1, o2, o3, o4⟩ := own_pu hW ⟨by omega, q2⟩ (fun z => q3 (by omega) z) q4
    have hnT := PR_nT hP
    obtain ⟨i1, -, -, ⟨cc, sg, j1, j2, j3, j4, j5, j6⟩, -⟩ := I
    rw [j1, j2]
    by_cases h30 : c < 30
    · rw [if_pos h30]
      have hx := q3 (by omega) h30
      have hc' := j4 (fun z => by rw [z] at hx; simp only [List.length_nil] at hx; omega)
      obtain ⟨b1, b2, b3⟩ := cz_bf (A := [cc]) hP i1 (fun v hv _ => by rw [List.mem_singleton.mp hv, hnT]; exact hc'.2) cc (List.mem_singleton.mpr rfl) hc'.1 (by omega)
      have b4 := cz_bk hP i1 hc'.1 hc'.2
      have eb : S.2.2.1 c = (Bfd K L W ar TN Ls cc).getD (c - 24).toNat [] := by
        rw [j6]
        exact if_pos h30
      have hg := gD_at (l := Bfd K L W ar TN Ls cc) (j := (c - 24).toNat) (by omega)
      rw [← eb] at hg
      obtain ⟨⟨g1, g1'⟩, g2, -⟩ := b2 _ _ hg
      have g3 := b4 _ _ hg
      rw [show tyc s P cc 2 + (((c - 24).toNat : Nat) : Int) = tyc s P cc 2 + (c - 24) by omega] at g1 g1' g2 g3
      exact ⟨⟨by omega, Or.inr ⟨g1, by omega⟩⟩, g2, o1, o2, o3⟩
    · rw [if_neg h30]
      have hy := q4 (by omega)
      rcases j5 with z | ⟨g, g1, g2, g3⟩
      · rw [z] at hy
        simp only [List.length_nil] at hy
        omega
      · obtain ⟨⟨p1, p2, p3⟩, -, p4, p5⟩ := cz_hd hP i1 g g1
        have p6 := cz_hk hP i1 g1
        rw [← g2] at p3 p5 p6
        have eb : S.2.2.1 c = (hdd K L W ar TN Ls g).2.2.getD (c - 30).toNat [] := by
          rw [j6]
          unfold bnD
          rw [if_neg h30, if_neg (by omega), g2, Int.toNat_natCast]
        have hg := gD_at (l := (hdd K L W ar TN Ls g).2.2) (j := (c - 30).toNat) (by omega)
        rw [← eb] at hg
        obtain ⟨⟨r1, r1'⟩, r2, -⟩ := p5 _ _ hg
        have r3 := p6 _ _ hg
        rw [show sgc s P sg 2 + (((c - 30).toNat : Nat) : Int) = sgc s P sg 2 + (c - 30) by omega] at r1 r1' r2 r3
        exact ⟨⟨by omega, Or.inr ⟨r1, by omega⟩⟩, r2, o1, o2, o3⟩
/-- methodOwner -/
theorem t_90 (hP : P = 3 ∨ P = 39) (hW : EWd K L W ar kd TN Ls n lo' hi' B b β0 β1 S) (I : CIn K L W ar kd TN Ls n k0 S P lo hi T0 s) (hk0 : k0 ≤ k) (hA : TYc ar (TN.length : Int) (S.2.1.length : Int) (S.1.length : Int) P T k s a1.toInt A) : Zt (d + 9) (wd P 90) 90 [.ref 75, .int a1] s (fun v s' => s' = s ∧ ∃ r : Int32, v = some (.int r) ∧ TYc ar (TN.length : Int) (S.2.1.length : Int) (S.1.length : Int) P T k s r.toInt (ownT S.2.2.1 A)) := by
  obtain ⟨c, A', rfl⟩ := TYc_ne hA
  have hw := TYc_hd hA
  have hc := hA.2.2.2.2 c List.mem_cons_self
  have hSP := CI_sp hW.1 I hA.2.2.2.2 c List.mem_cons_self
  refine Zt.imp (zs_90 (d := d) hP (by rw [hw]; exact ⟨hc.1, hc.2.1⟩) (by rw [hw]; exact fun z1 z2 => (hSP z1).1 z2) (by rw [hw]; exact fun z1 => (hSP (by omega)).2.1 z1)) ?_
  rintro v s' ⟨hs, r, rfl, hr⟩
  refine ⟨hs, r, rfl, ?_⟩
  rw [hr, hw]
  exact own_tc hW I hk0 hA
end ZZOW
