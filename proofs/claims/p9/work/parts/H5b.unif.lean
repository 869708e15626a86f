/-! ===== the class: both programs alike (by wip/p2/unif.py) ===== -/
theorem tu_131 {d P : Nat} (hP : P = 3 ∨ P = 39) (hc : ∀ p ∈ s_w131, CTR (yex (d + 4)) p.1 p.2) {a1 : Int32} {sa : Int32} {sk : Int32} {sf : Int32} {sc : Int32} {sz : Int32} {Q : Option Value → sW → Prop} (h : w_131_0 (fun k => Tt (d + 4) wgL (wk_131 P k) (wk_131 P k)) P a1 sa sk sf sc sz Q) : Tt (d + 5) wgL (wk_131 P 0) (wk_131 P 0) 131 [.ref 83, .int a1] (sa, sk, sf, sc, sz) Q := by
  rcases hP with rfl | rfl
  · exact Tt_wk (c := (wk_131 3 0).2.2) (c' := (wk_131 3 0).2.2) (t_131_3 hc h) rfl rfl rfl
  · exact Tt_wk (c := (wk_131 39 0).2.2) (c' := (wk_131 39 0).2.2) (t_131_39 hc h) rfl rfl rfl
theorem tu_9 {d P : Nat} (hP : P = 3 ∨ P = 39) (hc : ∀ p ∈ s_w9, CTR (yex (d + 4)) p.1 p.2) {sa : Int32} {sk : Int32} {sf : Int32} {sc : Int32} {sz : Int32} {Q : Option Value → sW → Prop} (h : w_9_0 (fun k => Tt (d + 4) wgL (wk_9 P k) (wk_9 P k)) P sa sk sf sc sz Q) : Tt (d + 5) wgL (wk_9 P 0) (wk_9 P 0) 9 [.ref 84] (sa, sk, sf, sc, sz) Q := by
  rcases hP with rfl | rfl
  · exact Tt_wk (c := (wk_9 3 0).2.2) (c' := (wk_9 3 0).2.2) (t_9_3 hc h) rfl rfl rfl
  · exact Tt_wk (c := (wk_9 39 0).2.2) (c' := (wk_9 39 0).2.2) (t_9_39 hc h) rfl rfl rfl
theorem tu_6 {d P : Nat} (hP : P = 3 ∨ P = 39) (hc : ∀ p ∈ s_w6, CTR (yex (d + 4)) p.1 p.2) {a1 : Int32} {sa : Int32} {sk : Int32} {sf : Int32} {sc : Int32} {sz : Int32} {Q : Option Value → sW → Prop} (h : w_6_0 (fun k => Tt (d + 4) wgL (wk_6 P k) (wk_6 P k)) P a1 sa sk sf sc sz Q) : Tt (d + 5) wgL (wk_6 P 0) (wk_6 P 0) 6 [.ref 84, .int a1] (sa, sk, sf, sc, sz) Q := by
  rcases hP with rfl | rfl
  · exact Tt_wk (c := (wk_6 3 0).2.2) (c' := (wk_6 3 0).2.2) (t_6_3 hc h) rfl rfl rfl
  · exact Tt_wk (c := (wk_6 39 0).2.2) (c' := (wk_6 39 0).2.2) (t_6_39 hc h) rfl rfl rfl
theorem tu_12 {d P : Nat} (hP : P = 3 ∨ P = 39) (hc : ∀ p ∈ s_w12, CTR (yex (d + 4)) p.1 p.2) {a1 : Int32} {a2 : Int32} {sa : Int32} {sk : Int32} {sf : Int32} {sc : Int32} {sz : Int32} {Q : Option Value → sW → Prop} (h : w_12_0 (fun k => Tt (d + 4) wgL (wk_12 P k) (wk_12 P k)) P a1 a2 sa sk sf sc sz Q) : Tt (d + 5) wgL (wk_12 P 0) (wk_12 P 0) 12 [.ref 84, .int a1, .int a2] (sa, sk, sf, sc, sz) Q := by
  rcases hP with rfl | rfl
  · exact Tt_wk (c := (wk_12 3 0).2.2) (c' := (wk_12 3 0).2.2) (t_12_3 hc h) rfl rfl rfl
  · exact Tt_wk (c := (wk_12 39 0).2.2) (c' := (wk_12 39 0).2.2) (t_12_39 hc h) rfl rfl rfl
theorem tu_10 {d P : Nat} (hP : P = 3 ∨ P = 39) (hc : ∀ p ∈ s_w10, CTR (yex (d + 4)) p.1 p.2) {a1 : Int32} {sa : Int32} {sk : Int32} {sf : Int32} {sc : Int32} {sz : Int32} {Q : Option Value → sW → Prop} (h : w_10_0 (fun k => Tt (d + 4) wgL (wk_10 P k) (wk_10 P k)) P a1 sa sk sf sc sz Q) : Tt (d + 5) wgL (wk_10 P 0) (wk_10 P 0) 10 [.ref 84, .int a1] (sa, sk, sf, sc, sz) Q := by
  rcases hP with rfl | rfl
  · exact Tt_wk (c := (wk_10 3 0).2.2) (c' := (wk_10 3 0).2.2) (t_10_3 hc h) rfl rfl rfl
  · exact Tt_wk (c := (wk_10 39 0).2.2) (c' := (wk_10 39 0).2.2) (t_10_39 hc h) rfl rfl rfl
theorem tu_11 {d P : Nat} (hP : P = 3 ∨ P = 39) (hc : ∀ p ∈ s_w11, CTR (yex (d + 4)) p.1 p.2) {a1 : Int32} {a2 : Int32} {a3 : Int32} {a4 : Int32} {a5 : Int32} {a6 : Int32} {sa : Int32} {sk : Int32} {sf : Int32} {sc : Int32} {sz : Int32} {Q : Option Value → sW → Prop} (h : w_11_0 (fun k => Tt (d + 4) wgL (wk_11 P k) (wk_11 P k)) P a1 a2 a3 a4 a5 a6 sa sk sf sc sz Q) : Tt (d + 5) wgL (wk_11 P 0) (wk_11 P 0) 11 [.ref 84, .int a1, .int a2, .int a3, .int a4, .int a5, .int a6] (sa, sk, sf, sc, sz) Q := by
  rcases hP with rfl | rfl
  · exact Tt_wk (c := (wk_11 3 0).2.2) (c' := (wk_11 3 0).2.2) (t_11_3 hc h) rfl rfl rfl
  · exact Tt_wk (c := (wk_11 39 0).2.2) (c' := (wk_11 39 0).2.2) (t_11_39 hc h) rfl rfl rfl
theorem tu_14 {d P : Nat} (hP : P = 3 ∨ P = 39) (hc : ∀ p ∈ s_w14, CTR (yex (d + 4)) p.1 p.2) {a1 : Int32} {a2 : Int32} {sa : Int32} {sk : Int32} {sf : Int32} {sc : Int32} {sz : Int32} {Q : Option Value → sW → Prop} (h : w_14_0 (fun k => Tt (d + 4) wgL (wk_14 P k) (wk_14 P k)) P a1 a2 sa sk sf sc sz Q) : Tt (d + 5) wgL (wk_14 P 0) (wk_14 P 0) 14 [.ref 84, .int a1, .int a2] (sa, sk, sf, sc, sz) Q := by
  rcases hP with rfl | rfl
  · exact Tt_wk (c := (wk_14 3 0).2.2) (c' := (wk_14 3 0).2.2) (t_14_3 hc h) rfl rfl rfl
  · exact Tt_wk (c := (wk_14 39 0).2.2) (c' := (wk_14 39 0).2.2) (t_14_39 hc h) rfl rfl rfl
theorem tu_8 {d P : Nat} (hP : P = 3 ∨ P = 39) (hc : ∀ p ∈ s_w8, CTR (yex (d + 4)) p.1 p.2) {a1 : Int32} {a2 : Int32} {sa : Int32} {sk : Int32} {sf : Int32} {sc : Int32} {sz : Int32} {Q : Option Value → sW → Prop} (h : w_8_0 (fun k => Tt (d + 4) wgL (wk_8 P k) (wk_8 P k)) P a1 a2 sa sk sf sc sz Q) : Tt (d + 5) wgL (wk_8 P 0) (wk_8 P 0) 8 [.ref 84, .int a1, .int a2] (sa, sk, sf, sc, sz) Q := by
  rcases hP with rfl | rfl
  · exact Tt_wk (c := (wk_8 3 0).2.2) (c' := (wk_8 3 0).2.2) (t_8_3 hc h) rfl rfl rfl
  · exact Tt_wk (c := (wk_8 39 0).2.2) (c' := (wk_8 39 0).2.2) (t_8_39 hc h) rfl rfl rfl
theorem tu_7 {d P : Nat} (hP : P = 3 ∨ P = 39) (hc : ∀ p ∈ s_w7, CTR (yex (d + 4)) p.1 p.2) {a1 : Int32} {sa : Int32} {sk : Int32} {sf : Int32} {sc : Int32} {sz : Int32} {Q : Option Value → sW → Prop} (h : w_7_0 (fun k => Tt (d + 4) wgL (wk_7 P k) (wk_7 P k)) P a1 sa sk sf sc sz Q) : Tt (d + 5) wgL (wk_7 P 0) (wk_7 P 0) 7 [.ref 84, .int a1] (sa, sk, sf, sc, sz) Q := by
  rcases hP with rfl | rfl
  · exact Tt_wk (c := (wk_7 3 0).2.2) (c' := (wk_7 3 0).2.2) (t_7_3 hc h) rfl rfl rfl
  · exact Tt_wk (c := (wk_7 39 0).2.2) (c' := (wk_7 39 0).2.2) (t_7_39 hc h) rfl rfl rfl
theorem tu_128 {d P : Nat} (hP : P = 3 ∨ P = 39) (hc : ∀ p ∈ s_w128, CTR (yex (d + 4)) p.1 p.2) {sa : Int32} {sk : Int32} {sf : Int32} {sc : Int32} {sz : Int32} {Q : Option Value → sW → Prop} (h : w_128_0 (fun k => Tt (d + 4) wdL (wk_128 P k) (wk_128 P k)) P sa sk sf sc sz Q) : Tt (d + 5) wdL (wk_128 P 0) (wk_128 P 0) 128 [.ref 83, .ref P] (sa, sk, sf, sc, sz) Q := by
  rcases hP with rfl | rfl
  · exact Tt_wk (c := (wk_128 3 0).2.2) (c' := (wk_128 3 0).2.2) (t_128_3 hc h) rfl rfl rfl
  · exact Tt_wk (c := (wk_128 39 0).2.2) (c' := (wk_128 39 0).2.2) (t_128_39 hc h) rfl rfl rfl
theorem tu_5 {d P : Nat} (hP : P = 3 ∨ P = 39) (hc : ∀ p ∈ s_w5, CTR (yex (d + 4)) p.1 p.2) {sa : Int32} {sk : Int32} {sf : Int32} {sc : Int32} {sz : Int32} {Q : Option Value → sW → Prop} (h : w_5_0 (fun k => Tt (d + 4) wdL (wk_5 P k) (wk_5 P k)) P sa sk sf sc sz Q) : Tt (d + 5) wdL (wk_5 P 0) (wk_5 P 0) 5 [.ref 84, .ref P] (sa, sk, sf, sc, sz) Q := by
  rcases hP with rfl | rfl
  · exact Tt_wk (c := (wk_5 3 0).2.2) (c' := (wk_5 3 0).2.2) (t_5_3 hc h) rfl rfl rfl
  · exact Tt_wk (c := (wk_5 39 0).2.2) (c' := (wk_5 39 0).2.2) (t_5_39 hc h) rfl rfl rfl
theorem tu_1 {d P : Nat} (hP : P = 3 ∨ P = 39) (hc : ∀ p ∈ s_w1, CTR (yex (d + 6)) p.1 p.2) {a2 : Int32} {sa : Int32} {sk : Int32} {sf : Int32} {sc : Int32} {sz : Int32} {Q : Option Value → sW → Prop} (h : w_1_0 (fun k => Tt (d + 6) wdL (wk_1 P k) (wk_1 P k)) P a2 sa sk sf sc sz Q) : Tt (d + 7) wdL (wk_1 P 0) (wk_1 P 0) 1 [.ref 85, .ref P, .int a2] (sa, sk, sf, sc, sz) Q := by
  rcases hP with rfl | rfl
  · exact Tt_wk (c := (wk_1 3 0).2.2) (c' := (wk_1 3 0).2.2) (t_1_3 hc h) rfl rfl rfl
  · exact Tt_wk (c := (wk_1 39 0).2.2) (c' := (wk_1 39 0).2.2) (t_1_39 hc h) rfl rfl rfl
theorem tu_37 {d P : Nat} (hP : P = 3 ∨ P = 39) (hc : ∀ p ∈ s_w37, CTR (yex (d + 4)) p.1 p.2) {sa : Int32} {sk : Int32} {sf : Int32} {sc : Int32} {sz : Int32} {Q : Option Value → sW → Prop} (h : w_37_0 (fun k => Tt (d + 4) wdL (wk_37 P k) (wk_37 P k)) P sa sk sf sc sz Q) : Tt (d + 5) wdL (wk_37 P 0) (wk_37 P 0) 37 [.ref P, .ref 1] (sa, sk, sf, sc, sz) Q := by
  rcases hP with rfl | rfl
  · exact Tt_wk (c := (wk_37 3 0).2.2) (c' := (wk_37 3 0).2.2) (t_37_3 hc h) rfl rfl rfl
  · exact Tt_wk (c := (wk_37 39 0).2.2) (c' := (wk_37 39 0).2.2) (t_37_39 hc h) rfl rfl rfl
theorem tu_152 {d P : Nat} (hP : P = 3 ∨ P = 39) (hc : ∀ p ∈ s_w152, CTR (yex (d + 4)) p.1 p.2) {a1 : Int32} {sa : Int32} {sk : Int32} {sf : Int32} {sc : Int32} {sz : Int32} {Q : Option Value → sW → Prop} (h : w_152_0 (fun k => Tt (d + 4) wdL (wk_152 P k) (wk_152 P k)) P a1 sa sk sf sc sz Q) : Tt (d + 5) wdL (wk_152 P 0) (wk_152 P 0) 152 [.ref 0, .int a1] (sa, sk, sf, sc, sz) Q := by
  rcases hP with rfl | rfl
  · exact Tt_wk (c := (wk_152 3 0).2.2) (c' := (wk_152 3 0).2.2) (t_152_3 hc h) rfl rfl rfl
  · exact Tt_wk (c := (wk_152 39 0).2.2) (c' := (wk_152 39 0).2.2) (t_152_39 hc h) rfl rfl rfl
theorem tu_141 {d P : Nat} (hP : P = 3 ∨ P = 39) (hc : ∀ p ∈ s_w141, CTR (yex (d + 4)) p.1 p.2) {sa : Int32} {sk : Int32} {sf : Int32} {sc : Int32} {sz : Int32} {Q : Option Value → sW → Prop} (h : w_141_0 (fun k => Tt (d + 4) wcL (wk_141 P k) (wk_141 P k)) P sa sk sf sc sz Q) : Tt (d + 5) wcL (wk_141 P 0) (wk_141 P 0) 141 [.ref 0] (sa, sk, sf, sc, sz) Q := by
  rcases hP with rfl | rfl
  · exact Tt_wk (c := (wk_141 3 0).2.2) (c' := (wk_141 3 0).2.2) (t_141_3 hc h) rfl rfl rfl
  · exact Tt_wk (c := (wk_141 39 0).2.2) (c' := (wk_141 39 0).2.2) (t_141_39 hc h) rfl rfl rfl
theorem tu_147 {d P : Nat} (hP : P = 3 ∨ P = 39) (hc : ∀ p ∈ s_w147, CTR (yex (d + 4)) p.1 p.2) {sa : Int32} {sk : Int32} {sf : Int32} {sc : Int32} {sz : Int32} {Q : Option Value → sW → Prop} (h : w_147_0 (fun k => Tt (d + 4) wcL (wk_147 P k) (wk_147 P k)) P sa sk sf sc sz Q) : Tt (d + 5) wcL (wk_147 P 0) (wk_147 P 0) 147 [.ref 0] (sa, sk, sf, sc, sz) Q := by
  rcases hP with rfl | rfl
  · exact Tt_wk (c := (wk_147 3 0).2.2) (c' := (wk_147 3 0).2.2) (t_147_3 hc h) rfl rfl rfl
  · exact Tt_wk (c := (wk_147 39 0).2.2) (c' := (wk_147 39 0).2.2) (t_147_39 hc h) rfl rfl rfl
