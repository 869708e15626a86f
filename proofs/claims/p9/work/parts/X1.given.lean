/-! ===== what the Statement gives of the start ===== -/
def xtm (i : Nat) : Term := match xsr[i]? with
  | some q => Term.string q.1 q.2.1
  | none => Term.string RX12 32
theorem xs_flat : (Cond.eq (.static "java/lang/String" "COMPACT_STRINGS" "Z") (.int 1)) ∈ flatC (Jvm.Cond.and given_1 narrow_1) ∧ (Cond.isRef (.static "jdk/internal/util/Preconditions" "SIOOBE_FORMATTER" "Ljava/util/function/BiFunction;")) ∈ flatC (Jvm.Cond.and given_1 narrow_1) := by decide +kernel
theorem xs_f1 : ∀ i, i < 7 → (Cond.exactly (xtm i) "java/lang/String") ∈ flatC (Jvm.Cond.and given_1 narrow_1) := by decide +kernel
theorem xs_f2 : ∀ i, i < 7 → (Cond.eq (.field (xtm i) "java/lang/String" "coder" "B") (.int 0)) ∈ flatC (Jvm.Cond.and given_1 narrow_1) := by decide +kernel
theorem xs_f3 : ∀ i, i < 7 → (Cond.arrayOf (.field (xtm i) "java/lang/String" "value" "[B") .byte) ∈ flatC (Jvm.Cond.and given_1 narrow_1) := by decide +kernel
theorem xs_f4 : ∀ i, i < 7 → (Cond.eq (.length (.field (xtm i) "java/lang/String" "value" "[B")) (.int (Int32.ofNat (xsl.getD i 0)))) ∈ flatC (Jvm.Cond.and given_1 narrow_1) := by decide +kernel
theorem xs_f5 : ∀ i, i < 7 → ∀ j, j < xsl.getD i 0 → (Cond.eq (.elem (.field (xtm i) "java/lang/String" "value" "[B") (.int (Int32.ofNat j))) (.int ((xsb.getD i []).getD j 0))) ∈ flatC (Jvm.Cond.and given_1 narrow_1) := by decide +kernel
theorem xs_f6 : ∀ i, i < 7 → ∀ j, j < 7 → ¬ i = j → (Cond.not (Cond.eq (xtm i) (xtm j))) ∈ flatC (Jvm.Cond.and given_1 narrow_1) ∨ (Cond.not (Cond.eq (xtm j) (xtm i))) ∈ flatC (Jvm.Cond.and given_1 narrow_1) := by decide +kernel
theorem xs_len : ∀ i, i < 7 → xsl.getD i 0 < 2 ^ 31 := by decide
theorem xs_wS : ∀ (k : Nat) (q : String × Nat × String), xsr[k]? = some q → Cond.stringRef q.1 q.2.1 q.2.2 ∈ lw_tbl := by
  intro k q h
  match k, h with
  | 0, h => cases h; exact List.mem_of_getElem? (i := 1424) (by decide +kernel)
  | 1, h => cases h; exact List.mem_of_getElem? (i := 768) (by decide +kernel)
  | 2, h => cases h; exact List.mem_of_getElem? (i := 821) (by decide +kernel)
  | 3, h => cases h; exact List.mem_of_getElem? (i := 822) (by decide +kernel)
  | 4, h => cases h; exact List.mem_of_getElem? (i := 823) (by decide +kernel)
  | 5, h => cases h; exact List.mem_of_getElem? (i := 824) (by decide +kernel)
  | 6, h => cases h; exact List.mem_of_getElem? (i := 825) (by decide +kernel)
  | k + 7, h => cases h
theorem xs_w2 : Cond.laysStatic "java/lang/String" "COMPACT_STRINGS" "Z" ∈ lw_tbl := List.mem_of_getElem? (i := 782) (by decide +kernel)
theorem xs_w3 : Cond.laysStatic "jdk/internal/util/Preconditions" "SIOOBE_FORMATTER" "Ljava/util/function/BiFunction;" ∈ lw_tbl := List.mem_of_getElem? (i := 798) (by decide +kernel)
theorem xs_w4 : Cond.arrayOver (.object RX6) ∈ lw_tbl := List.mem_of_getElem? (i := 543) (by decide +kernel)
theorem xs_w5 : Cond.initialized "java/lang/String" ∈ lw_tbl := List.mem_of_getElem? (i := 183) (by decide +kernel)
theorem xs_w6 : Cond.initialized "jdk/internal/util/Preconditions" ∈ lw_tbl := List.mem_of_getElem? (i := 185) (by decide +kernel)
theorem xs_a_int : Cond.arrayClass .int ∈ xT := (xT_c1 58 rfl rfl)
theorem xs_a_long : Cond.arrayClass .long ∈ xT := (xT_c7 195 rfl rfl)
theorem xs_a_boolean : Cond.arrayClass .boolean ∈ xT := (xT_c7 196 rfl rfl)
theorem xs_i0 : Cond.instantiable RX0 7 ∈ xT := (xT_c2 95 rfl rfl)
theorem xs_i1 : Cond.instantiable RX1 8 ∈ xT := (xT_c2 64 rfl rfl)
theorem xs_i2 : Cond.instantiable RX2 15 ∈ xT := (xT_c2 130 rfl rfl)
theorem xs_i3 : Cond.instantiable RX3 4 ∈ xT := (xT_c2 237 rfl rfl)
theorem xs_i4 : Cond.instantiable RX4 15 ∈ xT := (xT_c1 60 rfl rfl)
theorem xs_i5 : Cond.instantiable RX5 4 ∈ xT := (xT_c2 29 rfl rfl)
theorem xs_i6 : Cond.instantiable RX6 3 ∈ xT := (xT_c1 30 rfl rfl)
theorem xs_i7 : Cond.instantiable RX7 10 ∈ xT := (xT_c1 220 rfl rfl)
theorem xs_i8 : Cond.instantiable RX8 11 ∈ xT := (xT_c2 192 rfl rfl)
theorem xs_i9 : Cond.instantiable RX9 8 ∈ xT := (xT_c1 66 rfl rfl)
theorem xs_i10 : Cond.instantiable RX10 3 ∈ xT := (xT_c2 48 rfl rfl)
theorem xs_i11 : Cond.instantiable RX11 13 ∈ xT := (xT_c1 22 rfl rfl)
theorem xs_i12 : Cond.instantiable RX12 125 ∈ xT := (xT_c6 53 rfl rfl)
theorem xs_arr {s : State} {args : Array Value} {ty : FieldType} (h : (Cond.arrayClass ty).before args s = true) : ∃ cA : ClassId, ArrOfT s cA ty ∧ s.vm.findClass ("[" ++ ty.toString) = some cA := by
  obtain ⟨cA, kA, comp, h1, h2, h3⟩ := Cond.arrayClass_spec h
  exact ⟨cA, fun n z => ⟨fun k h => (by cases h), kA, h2, comp, h3⟩, h1⟩
set_option maxHeartbeats 4000000 in
theorem xs_start {s : State} {args : Array Value} (hts0 : ∀ w ∈ lw_tbl, w.before args s = true) (hgv : (Jvm.Cond.and given_1 narrow_1).before args s = true) : ∃ (aS : Nat → Nat) (D : va_G) (cT : Nat → ClassId), xG s.heap.size aS D cT s := by
  have hts : ∀ w ∈ xT, w.before args s = true := fun w hw => hts0 w (List.mem_filter.mp hw).1
  have hs := flat_of_before _ hgv
  have hA : ∀ a : Nat, a < s.heap.size → ¬ xA s.heap.size a := fun a h1 h2 => absurd h2 (Nat.not_le.mpr h1)
  obtain ⟨c0, f0, k0⟩ := u_known (C := RX0) (T := TX0) (N := 7) (n := 7) hts inX0 (hts _ xs_i0)
  obtain ⟨c1, f1, k1⟩ := u_known (C := RX1) (T := TX1) (N := 8) (n := 8) hts inX1 (hts _ xs_i1)
  obtain ⟨c2, f2, k2⟩ := u_known (C := RX2) (T := TX2) (N := 15) (n := 15) hts inX2 (hts _ xs_i2)
  obtain ⟨c3, f3, k3⟩ := u_known (C := RX3) (T := TX3) (N := 4) (n := 4) hts inX3 (hts _ xs_i3)
  obtain ⟨c4, f4, k4⟩ := u_known (C := RX4) (T := TX4) (N := 15) (n := 15) hts inX4 (hts _ xs_i4)
  obtain ⟨c5, f5, k5⟩ := u_known (C := RX5) (T := TX5) (N := 4) (n := 4) hts inX5 (hts _ xs_i5)
  obtain ⟨c6, f6, k6⟩ := u_known (C := RX6) (T := TX6) (N := 3) (n := 3) hts inX6 (hts _ xs_i6)
  obtain ⟨c7, f7, k7⟩ := u_known (C := RX7) (T := TX7) (N := 10) (n := 10) hts inX7 (hts _ xs_i7)
  obtain ⟨c8, f8, k8⟩ := u_known (C := RX8) (T := TX8) (N := 11) (n := 11) hts inX8 (hts _ xs_i8)
  obtain ⟨c9, f9, k9⟩ := u_known (C := RX9) (T := TX9) (N := 8) (n := 8) hts inX9 (hts _ xs_i9)
  obtain ⟨c10, f10, k10⟩ := u_known (C := RX10) (T := TX10) (N := 3) (n := 3) hts inX10 (hts _ xs_i10)
  obtain ⟨c11, f11, k11⟩ := u_known (C := RX11) (T := TX11) (N := 13) (n := 13) hts inX11 (hts _ xs_i11)
  obtain ⟨c12, f12, k12⟩ := u_known (C := RX12) (T := TX12) (N := 125) (n := 125) hts inX12 (hts _ xs_i12)
  obtain ⟨a0, r0, q0⟩ := xs_arr (hts _ xs_a_int)
  obtain ⟨a1, r1, q1⟩ := xs_arr (hts _ xs_a_long)
  obtain ⟨a2, r2, q2⟩ := xs_arr (hts _ xs_a_boolean)
  obtain ⟨comp, a3, kA, g1, -, g3, g4, g5⟩ := Cond.arrayOver_spec (hts0 _ xs_w4)
  obtain ⟨adK, adV, hS, hev⟩ := vk_Sof (args := args) (s := s) (N := 7) (tm := xtm) (len := xsl) (byt := xsb) (A := xA s.heap.size) xs_len (fun i hi => hs _ (xs_f1 i hi)) (fun i hi => hs _ (xs_f2 i hi)) (fun i hi => hs _ (xs_f3 i hi)) (fun i hi => hs _ (xs_f4 i hi)) (fun i hi j hj => hs _ (xs_f5 i hi j hj)) (fun i j hi hj hij => (xs_f6 i hi j hj hij).imp (hs _) (hs _)) hA
  refine ⟨adK, (fun k => ([c0, c1, c2, c3, c4, c5, c6, c7, c8, c9, c10, c11, c12] : List ClassId).getD k 0, fun k => ([f0, f1, f2, f3, f4, f5, f6, f7, f8, f9, f10, f11, f12] : List (Nat → Nat)).getD k (fun _ => 0)), fun k => ([a0, a1, a2, a3] : List ClassId).getD k 0, ⟨?_, ?_⟩, ?_, hts0 _ xs_w4, Nat.le_refl _, ?_⟩
  · intro k q hq
    match k, hq with
    | 0, hq => cases hq; exact k0
    | 1, hq => cases hq; exact k1
    | 2, hq => cases hq; exact k2
    | 3, hq => cases hq; exact k3
    | 4, hq => cases hq; exact k4
    | 5, hq => cases hq; exact k5
    | 6, hq => cases hq; exact k6
    | 7, hq => cases hq; exact k7
    | 8, hq => cases hq; exact k8
    | 9, hq => cases hq; exact k9
    | 10, hq => cases hq; exact k10
    | 11, hq => cases hq; exact k11
    | 12, hq => cases hq; exact k12
    | k + 13, hq => simp [vwCl] at hq
  · intro k q hq
    match k, hq with
    | 0, hq => cases hq; exact ⟨r0, q0⟩
    | 1, hq => cases hq; exact ⟨r1, q1⟩
    | 2, hq => cases hq; exact ⟨r2, q2⟩
    | 3, hq => cases hq; exact ⟨fun n z => ⟨fun k h => (by cases h), kA, g3, comp, g4⟩, kA, comp, g3, g4, g1, g5⟩
    | k + 4, hq => simp [xtys] at hq
  · intro w hw
    obtain ⟨h1, h2⟩ := List.mem_filter.mp hw
    have h3 := hts0 w h1
    cases w <;> first | exact va_Nw.of rfl h3 | (simp at h2; done)
  · refine ⟨fun k q hq => ?_, va_Zof (hts0 _ xs_w2) (hts0 _ xs_w5) (va_eqt (hs _ xs_flat.1)) hA, va_Zqof (hts0 _ xs_w3) (hts0 _ xs_w6) (hs _ xs_flat.2) hA, adV, hS⟩
    have hk : k < 7 := by
      have := (List.getElem?_eq_some_iff.mp hq).1
      exact this
    have := hev k hk
    unfold xtm at this
    rw [hq] at this
    exact vk_R.of (hts0 _ (xs_wS k q hq)) this
