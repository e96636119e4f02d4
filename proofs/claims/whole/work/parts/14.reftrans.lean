/-! transform and constructor of the reference -/
set_option maxHeartbeats 4000000 in
set_option maxRecDepth 100000 in
theorem k_transform (l : Launch) (dC : Nat → ClassId) (dI : Nat → Nat → Nat) (h0 h1 h2 h3 sz : Nat) (cA cB cC : ClassId) (f g u : Nat → Int64) (k : Int32) (q1 q2 q3 : Int32) : Met l yX1_transform wsX1_transform ({ frames := 2, cells := 0, slots := 0, locals := 55 }) (kPre (dC, dI) [(cA, .long), (cB, .long), (cC, .long)] [.ref h0, .int q1, .int q2, .int q3] sz (w4 h0 h1 h2 h3 cA cB cC f g u k)) (kQi (dC, dI) [(cA, .long), (cB, .long), (cC, .long)] sz (w4 h0 h1 h2 h3 cA cB cC f g u k) (fun r w => (zrf q1 q2 r ∧ ¬ r = 0 ∧ w = w4 h0 h1 h2 h3 cA cB cC f g u k) ∨ (r = 0 ∧ ∃ L P w0 u2, zgo q1 q2 L P ∧ 2 ^ L ∣ P - 1 ∧ zW (2 ^ L) P w0 ∧ w = w4 h0 h1 h2 h3 cA cB cC (zT L P w0 q3 f) g u2 k))) 0 0 (va_A (w4 h0 h1 h2 h3 cA cB cC f g u k) sz) := by
  refine k_met (cc := cX1_transform) (maxL := 17) (ret := (some .int)) (by decide) rfl (Nat.le_of_ble_eq_true rfl) ?_
  intro p e s m below meth c ls hx hb hr hlocks hml hown hts hnm hK hP hD hS hA hl
  have hl : lv_has ls 17 [(0, .ref h0), (1, .int q1), (2, .int q2), (3, .int q3)] := hl
  have inws : ∀ w ∈ u_ws RX1 TX1 4, w ∈ wsX1_transform := by decide +kernel
  refine lv_iload_n hx hb dX1_transform_0 rfl (lv_at hl 1 rfl) ?_
  refine lv_iload_n hx hb dX1_transform_1 rfl (lv_at hl 2 rfl) ?_
  refine kc_i (As := [.int q1, .int q2]) (rest := []) ⟨hx, hb, hml, hown, hts⟩ (k_refused l q1 q2) (va_cwS 2 hts gX1_transform_X1_refused rfl rfl rfl (by decide +kernel) ⟨Nat.le_of_ble_eq_true rfl, Nat.le_of_ble_eq_true rfl⟩) rfl hl.1 rfl (Nat.le_of_ble_eq_true rfl) dX1_transform_2 ⟨Nat.zero_le _, Nat.zero_le _⟩ (fun r1 hr1 => ?_)
  refine lv_istore (lv' := [(4, .int (r1)), (0, .ref h0), (1, .int q1), (2, .int q2), (3, .int q3)]) hx hb dX1_transform_5 hl (by decide) rfl (fun ls hl => ?_)
  refine lv_iload hx hb dX1_transform_7 (lv_at hl 0 rfl) ?_
  refine lv_if_ge (tgt := 15) hx hb dX1_transform_9 (by decide) (fun hc => ?_) (fun hc => ?_)
  · obtain ⟨z, -⟩ | ⟨z, -⟩ | ⟨z, -⟩ | ⟨-, L, P, ⟨hL, e1, e2, hp1, hp2, hp3⟩, hd⟩ := hr1
    · exact absurd (z ▸ hc) (by decide)
    · exact absurd (z ▸ hc) (by decide)
    · exact absurd (z ▸ hc) (by decide)
    obtain ⟨w0, hW⟩ := zW_all hp1 hp3 hd
    have h2p := z_2pow hL
    have hNP := z_dvd_lt hp1 hd
    have hw0 := zW_lt hp1 hW
    rw [e1, e2] at hl
    have main : ∀ (w1 c0 : Nat), w1 < P → c0 < P → zem (2 ^ L) (fun k => zm P (w1 ^ k % P) (fun j => zrs P (f j)) (2 ^ L) * c0 % P) f = zT L P w0 q3 f → ∀ (n k0 : Nat), 2 ^ L + 1 ≤ k0 + n → k0 ≤ 2 ^ L → ∀ (H : Heap) (locs : List Loc), va_P (dC, dI) vwCl (w4 h0 h1 h2 h3 cA cB cC (zpt k0 (fun k => lN (zm P (w1 ^ k % P) (fun j => zrs P (f j)) (2 ^ L) * c0 % P)) f) g (zpt (2 ^ L) (fun j => lN (zrs P (f j))) u) k) H → va_D (va_A (w4 h0 h1 h2 h3 cA cB cC f g u k) sz) (w4 h0 h1 h2 h3 cA cB cC (zpt k0 (fun k => lN (zm P (w1 ^ k % P) (fun j => zrs P (f j)) (2 ^ L) * c0 % P)) f) g (zpt (2 ^ L) (fun j => lN (zrs P (f j))) u) k) → va_S (va_A (w4 h0 h1 h2 h3 cA cB cC f g u k) sz) s.heap H locs → ∀ (ls : Array Slot), lv_has ls 17 [(0, .ref h0), (1, .int (nI (2 ^ L))), (2, .int (nI P)), (5, .long (lN w1)), (7, .long (lN c0)), (9, .long (lN (w1 ^ k0 % P))), (11, .int (nI k0))] → W p l e ({ frames := 2, cells := 0, slots := 0, locals := 55 } : Room) s m ([.ref h0, .int q1, .int q2, .int q3] : List Value).toArray below meth c H locs 0 0 (MQ below (kQi (dC, dI) [(cA, .long), (cB, .long), (cC, .long)] sz (w4 h0 h1 h2 h3 cA cB cC f g u k) (fun r w => (zrf q1 q2 r ∧ ¬ r = 0 ∧ w = w4 h0 h1 h2 h3 cA cB cC f g u k) ∨ (r = 0 ∧ ∃ L P w0 u2, zgo q1 q2 L P ∧ 2 ^ L ∣ P - 1 ∧ zW (2 ^ L) P w0 ∧ w = w4 h0 h1 h2 h3 cA cB cC (zT L P w0 q3 f) g u2 k))) ([.ref h0, .int q1, .int q2, .int q3] : List Value).toArray s 0 0 (va_A (w4 h0 h1 h2 h3 cA cB cC f g u k) sz)) (F0 m 97 ls []) := by
      intro w1 c0 hw1 hc0 hfin n
      induction n with
      | zero => intro k0 y1 y2; exact absurd y1 (by omega)
      | succ n ih =>
        intro k0 y1 y2 H locs hP hD hS ls hl
        refine lv_iload hx hb dX1_transform_97 (lv_at hl 6 rfl) ?_
        refine lv_iload_n hx hb dX1_transform_99 rfl (lv_at hl 1 rfl) ?_
        refine lv_icmp_ge (tgt := 183) hx hb dX1_transform_100 (by decide) (fun hc2 => ?_) (fun hc2 => ?_)
        · have hk : k0 = 2 ^ L := by have := (nI_leI (by omega) (by omega)).mp hc2; omega
          rw [hk] at hP hD
          refine lv_iconst (v := (0 : Int32)) hx hb dX1_transform_183 (by decide) ?_
          refine kr_i hx hb hr hlocks hK hP hD hS (Or.inr ⟨rfl, L, P, w0, zpt (2 ^ L) (fun j => lN (zrs P (f j))) u, ⟨hL, e1, e2, hp1, hp2, hp3⟩, hd, hW, ?_⟩) dX1_transform_184
          exact congrArg (fun z => w4 h0 h1 h2 h3 cA cB cC z g (zpt (2 ^ L) (fun j => lN (zrs P (f j))) u) k) hfin
        · have hk : k0 < 2 ^ L := Nat.not_le.mp fun z => hc2 ((nI_leI (by omega) (by omega)).mpr z)
          have hst := Nat.mod_lt (w1 ^ k0) (show 0 < P by omega)
          refine lv_lconst (v := lN (zm P (w1 ^ k0 % P) (fun j => zrs P (f j)) 0)) hx hb dX1_transform_103 (rfl) ?_
          refine lv_lstore (lv' := [(12, .long (lN (zm P (w1 ^ k0 % P) (fun j => zrs P (f j)) 0))), (0, .ref h0), (1, .int (nI (2 ^ L))), (2, .int (nI P)), (5, .long (lN w1)), (7, .long (lN c0)), (9, .long (lN (w1 ^ k0 % P))), (11, .int (nI k0))]) hx hb dX1_transform_104 hl (by decide) rfl (fun ls hl => ?_)
          have e3 : lN 1 = lN ((w1 ^ k0 % P) ^ 0 % P) := by rw [Nat.pow_zero, Nat.mod_eq_of_lt (by omega)]
          refine lv_lconst (v := lN 1) hx hb dX1_transform_106 (by decide) ?_
          refine kt_l e3 ?_
          refine lv_lstore (lv' := [(14, .long (lN ((w1 ^ k0 % P) ^ 0 % P))), (12, .long (lN (zm P (w1 ^ k0 % P) (fun j => zrs P (f j)) 0))), (0, .ref h0), (1, .int (nI (2 ^ L))), (2, .int (nI P)), (5, .long (lN w1)), (7, .long (lN c0)), (9, .long (lN (w1 ^ k0 % P))), (11, .int (nI k0))]) hx hb dX1_transform_107 hl (by decide) rfl (fun ls hl => ?_)
          refine lv_iconst (v := nI 0) hx hb dX1_transform_109 (by decide) ?_
          refine lv_istore (lv' := [(16, .int (nI 0)), (14, .long (lN ((w1 ^ k0 % P) ^ 0 % P))), (12, .long (lN (zm P (w1 ^ k0 % P) (fun j => zrs P (f j)) 0))), (0, .ref h0), (1, .int (nI (2 ^ L))), (2, .int (nI P)), (5, .long (lN w1)), (7, .long (lN c0)), (9, .long (lN (w1 ^ k0 % P))), (11, .int (nI k0))]) hx hb dX1_transform_110 hl (by decide) rfl (fun ls hl => ?_)
          have inner : ∀ (n2 j : Nat), 2 ^ L + 1 ≤ j + n2 → j ≤ 2 ^ L → ∀ (H : Heap) (locs : List Loc), va_P (dC, dI) vwCl (w4 h0 h1 h2 h3 cA cB cC (zpt k0 (fun k => lN (zm P (w1 ^ k % P) (fun j => zrs P (f j)) (2 ^ L) * c0 % P)) f) g (zpt (2 ^ L) (fun j => lN (zrs P (f j))) u) k) H → va_D (va_A (w4 h0 h1 h2 h3 cA cB cC f g u k) sz) (w4 h0 h1 h2 h3 cA cB cC (zpt k0 (fun k => lN (zm P (w1 ^ k % P) (fun j => zrs P (f j)) (2 ^ L) * c0 % P)) f) g (zpt (2 ^ L) (fun j => lN (zrs P (f j))) u) k) → va_S (va_A (w4 h0 h1 h2 h3 cA cB cC f g u k) sz) s.heap H locs → ∀ (ls : Array Slot), lv_has ls 17 [(0, .ref h0), (1, .int (nI (2 ^ L))), (2, .int (nI P)), (5, .long (lN w1)), (7, .long (lN c0)), (9, .long (lN (w1 ^ k0 % P))), (11, .int (nI k0)), (12, .long (lN (zm P (w1 ^ k0 % P) (fun j => zrs P (f j)) j))), (14, .long (lN ((w1 ^ k0 % P) ^ j % P))), (16, .int (nI j))] → W p l e ({ frames := 2, cells := 0, slots := 0, locals := 55 } : Room) s m ([.ref h0, .int q1, .int q2, .int q3] : List Value).toArray below meth c H locs 0 0 (MQ below (kQi (dC, dI) [(cA, .long), (cB, .long), (cC, .long)] sz (w4 h0 h1 h2 h3 cA cB cC f g u k) (fun r w => (zrf q1 q2 r ∧ ¬ r = 0 ∧ w = w4 h0 h1 h2 h3 cA cB cC f g u k) ∨ (r = 0 ∧ ∃ L P w0 u2, zgo q1 q2 L P ∧ 2 ^ L ∣ P - 1 ∧ zW (2 ^ L) P w0 ∧ w = w4 h0 h1 h2 h3 cA cB cC (zT L P w0 q3 f) g u2 k))) ([.ref h0, .int q1, .int q2, .int q3] : List Value).toArray s 0 0 (va_A (w4 h0 h1 h2 h3 cA cB cC f g u k) sz)) (F0 m 112 ls []) := by
            intro n2
            induction n2 with
            | zero => intro j y3 y4; exact absurd y3 (by omega)
            | succ n2 ih2 =>
              intro j y3 y4 H locs hP hD hS ls hl
              refine lv_iload hx hb dX1_transform_112 (lv_at hl 9 rfl) ?_
              refine lv_iload_n hx hb dX1_transform_114 rfl (lv_at hl 1 rfl) ?_
              refine lv_icmp_ge (tgt := 152) hx hb dX1_transform_115 (by decide) (fun hc3 => ?_) (fun hc3 => ?_)
              · have hj : j = 2 ^ L := by have := (nI_leI (by omega) (by omega)).mp hc3; omega
                have hzl := zm_lt (P := P) (st := (w1 ^ k0 % P)) (a := (fun j => zrs P (f j))) (by omega) j
                refine lv_aload_n hx hb dX1_transform_152 rfl (lv_at hl 0 rfl) ?_
                refine va_get (D := (dC, dI)) (ci := 1) (v := .ref h1) (C := RX1) (T := TX1) (N := 4) hx hb hts inws hown hK hP 0 rfl rfl 0 (by decide) (hts (.fieldLink RX1 9 "ResidueTransformsModel" "row" "[J") (by decide +kernel)) (fun _ h9 => h9) rfl dX1_transform_153 ?_
                refine lv_iload hx hb dX1_transform_156 (lv_at hl 6 rfl) ?_
                refine lv_lload hx hb dX1_transform_158 (lv_at hl 7 rfl) ?_
                refine lv_lload hx hb dX1_transform_160 (lv_at hl 4 rfl) ?_
                refine lv_lmul hx hb dX1_transform_162 ?_
                refine lv_iload_n hx hb dX1_transform_163 rfl (lv_at hl 2 rfl) ?_
                refine lv_i2l (v := lN P) hx hb dX1_transform_164 (nI_l (by omega)) ?_
                refine lv_lrem hx hb dX1_transform_165 (zl_ne (by omega) (by omega)) ?_
                refine kt_l (v := lN (zm P (w1 ^ k0 % P) (fun j => zrs P (f j)) j * c0 % P)) (z_pr hp2 hzl hc0) ?_
                refine ka_st (w1 := w4 h0 h1 h2 h3 cA cB cC (zpt (k0 + 1) (fun k => lN (zm P (w1 ^ k % P) (fun j => zrs P (f j)) (2 ^ L) * c0 % P)) f) g (zpt (2 ^ L) (fun j => lN (zrs P (f j))) u) k) hx hb hK hP hD hS 1 0 rfl rfl (i := k0) (by omega) (by decide) dX1_transform_166 (congrArg (fun z => w4 h0 h1 h2 h3 cA cB cC z g (zpt (2 ^ L) (fun j => lN (zrs P (f j))) u) k) (zpt_up (by rw [hj]))) (fun H locs hP hD hS => ?_)
                refine lv_lload hx hb dX1_transform_167 (lv_at hl 5 rfl) ?_
                refine lv_lload hx hb dX1_transform_169 (lv_at hl 3 rfl) ?_
                refine lv_lmul hx hb dX1_transform_171 ?_
                refine lv_iload_n hx hb dX1_transform_172 rfl (lv_at hl 2 rfl) ?_
                refine lv_i2l (v := lN P) hx hb dX1_transform_173 (nI_l (by omega)) ?_
                refine lv_lrem hx hb dX1_transform_174 (zl_ne (by omega) (by omega)) ?_
                refine kt_l (v := lN (w1 ^ (k0 + 1) % P)) ((z_pr hp2 hst hw1).trans (congrArg lN (z_pw k0))) ?_
                refine lv_lstore (lv' := [(9, .long (lN (w1 ^ (k0 + 1) % P))), (0, .ref h0), (1, .int (nI (2 ^ L))), (2, .int (nI P)), (5, .long (lN w1)), (7, .long (lN c0)), (11, .int (nI k0)), (12, .long (lN (zm P (w1 ^ k0 % P) (fun j => zrs P (f j)) j))), (14, .long (lN ((w1 ^ k0 % P) ^ j % P))), (16, .int (nI j))]) hx hb dX1_transform_175 hl (by decide) rfl (fun ls hl => ?_)
                refine lv_iinc (v := nI (k0 + 1)) (lv' := [(11, .int (nI (k0 + 1))), (9, .long (lN (w1 ^ (k0 + 1) % P))), (0, .ref h0), (1, .int (nI (2 ^ L))), (2, .int (nI P)), (5, .long (lN w1)), (7, .long (lN c0)), (12, .long (lN (zm P (w1 ^ k0 % P) (fun j => zrs P (f j)) j))), (14, .long (lN ((w1 ^ k0 % P) ^ j % P))), (16, .int (nI j))]) hx hb dX1_transform_177 hl (k := 6) rfl (nI_1 k0) (by decide) rfl (fun ls hl => ?_)
                refine lv_goto (tgt := 97) hx hb dX1_transform_180 (by decide) ?_
                exact ih (k0 + 1) (by omega) (by omega) H locs hP hD hS ls (lv_sub hl [2, 3, 4, 5, 6, 1, 0] rfl)
              · have hj : j < 2 ^ L := Nat.not_le.mp fun z => hc3 ((nI_leI (by omega) (by omega)).mpr z)
                have hzl := zm_lt (P := P) (st := (w1 ^ k0 % P)) (a := (fun j => zrs P (f j))) (by omega) j
                have hby := Nat.mod_lt ((w1 ^ k0 % P) ^ j) (show 0 < P by omega)
                have har := zrs_lt (show 0 < P by omega) (f j)
                have hmm : zrs P (f j) * ((w1 ^ k0 % P) ^ j % P) ≤ 1000000007 * 1000000007 := Nat.mul_le_mul (by omega) (by omega)
                refine lv_lload hx hb dX1_transform_118 (lv_at hl 7 rfl) ?_
                refine lv_aload_n hx hb dX1_transform_120 rfl (lv_at hl 0 rfl) ?_
                refine va_get (D := (dC, dI)) (ci := 1) (v := .ref h3) (C := RX1) (T := TX1) (N := 4) hx hb hts inws hown hK hP 0 rfl rfl 2 (by decide) (hts (.fieldLink RX1 16 "ResidueTransformsModel" "work" "[J") (by decide +kernel)) (fun _ h9 => h9) rfl dX1_transform_121 ?_
                refine lv_iload hx hb dX1_transform_124 (lv_at hl 9 rfl) ?_
                refine ka_ld hx hb hK hP 3 2 rfl rfl (i := j) (by omega) (by decide) dX1_transform_126 ?_
                refine kt_l (v := lN (zrs P (f j))) (if_pos hj) ?_
                refine lv_lload hx hb dX1_transform_127 (lv_at hl 8 rfl) ?_
                refine lv_lmul hx hb dX1_transform_129 ?_
                refine kt_l (v := lN (zrs P (f j) * ((w1 ^ k0 % P) ^ j % P))) (lN_mul _ _) ?_
                refine lv_ladd hx hb dX1_transform_130 ?_
                refine kt_l (v := lN (zm P (w1 ^ k0 % P) (fun j => zrs P (f j)) j + zrs P (f j) * ((w1 ^ k0 % P) ^ j % P))) (lN_add _ _) ?_
                refine lv_iload_n hx hb dX1_transform_131 rfl (lv_at hl 2 rfl) ?_
                refine lv_i2l (v := lN P) hx hb dX1_transform_132 (nI_l (by omega)) ?_
                refine lv_lrem hx hb dX1_transform_133 (zl_ne (by omega) (by omega)) ?_
                refine kt_l (v := lN (zm P (w1 ^ k0 % P) (fun j => zrs P (f j)) (j + 1))) (pk_lRem (by omega) (by omega) (by omega)) ?_
                refine lv_lstore (lv' := [(12, .long (lN (zm P (w1 ^ k0 % P) (fun j => zrs P (f j)) (j + 1)))), (0, .ref h0), (1, .int (nI (2 ^ L))), (2, .int (nI P)), (5, .long (lN w1)), (7, .long (lN c0)), (9, .long (lN (w1 ^ k0 % P))), (11, .int (nI k0)), (14, .long (lN ((w1 ^ k0 % P) ^ j % P))), (16, .int (nI j))]) hx hb dX1_transform_134 hl (by decide) rfl (fun ls hl => ?_)
                refine lv_lload hx hb dX1_transform_136 (lv_at hl 8 rfl) ?_
                refine lv_lload hx hb dX1_transform_138 (lv_at hl 6 rfl) ?_
                refine lv_lmul hx hb dX1_transform_140 ?_
                refine lv_iload_n hx hb dX1_transform_141 rfl (lv_at hl 3 rfl) ?_
                refine lv_i2l (v := lN P) hx hb dX1_transform_142 (nI_l (by omega)) ?_
                refine lv_lrem hx hb dX1_transform_143 (zl_ne (by omega) (by omega)) ?_
                refine kt_l (v := lN ((w1 ^ k0 % P) ^ (j + 1) % P)) ((z_pr hp2 hby hst).trans (congrArg lN (z_pw j))) ?_
                refine lv_lstore (lv' := [(14, .long (lN ((w1 ^ k0 % P) ^ (j + 1) % P))), (12, .long (lN (zm P (w1 ^ k0 % P) (fun j => zrs P (f j)) (j + 1)))), (0, .ref h0), (1, .int (nI (2 ^ L))), (2, .int (nI P)), (5, .long (lN w1)), (7, .long (lN c0)), (9, .long (lN (w1 ^ k0 % P))), (11, .int (nI k0)), (16, .int (nI j))]) hx hb dX1_transform_144 hl (by decide) rfl (fun ls hl => ?_)
                refine lv_iinc (v := nI (j + 1)) (lv' := [(16, .int (nI (j + 1))), (14, .long (lN ((w1 ^ k0 % P) ^ (j + 1) % P))), (12, .long (lN (zm P (w1 ^ k0 % P) (fun j => zrs P (f j)) (j + 1)))), (0, .ref h0), (1, .int (nI (2 ^ L))), (2, .int (nI P)), (5, .long (lN w1)), (7, .long (lN c0)), (9, .long (lN (w1 ^ k0 % P))), (11, .int (nI k0))]) hx hb dX1_transform_146 hl (k := 9) rfl (nI_1 j) (by decide) rfl (fun ls hl => ?_)
                refine lv_goto (tgt := 112) hx hb dX1_transform_149 (by decide) ?_
                exact ih2 (j + 1) (by omega) (by omega) H locs hP hD hS ls (lv_sub hl [3, 4, 5, 6, 7, 8, 9, 2, 1, 0] rfl)
          exact inner (2 ^ L + 1) 0 (by omega) (by omega) H locs hP hD hS ls (lv_sub hl [3, 4, 5, 6, 7, 8, 9, 2, 1, 0] rfl)
    have fill : ∀ (w1 : Nat), w1 < P → ((q3 = 0 ∧ w1 = w0) ∨ (¬ q3 = 0 ∧ w1 = w0 ^ (P - 2) % P)) → ∀ (n i : Nat), 2 ^ L + 1 ≤ i + n → i ≤ 2 ^ L → ∀ (H : Heap) (locs : List Loc), va_P (dC, dI) vwCl (w4 h0 h1 h2 h3 cA cB cC f g (zpt i (fun j => lN (zrs P (f j))) u) k) H → va_D (va_A (w4 h0 h1 h2 h3 cA cB cC f g u k) sz) (w4 h0 h1 h2 h3 cA cB cC f g (zpt i (fun j => lN (zrs P (f j))) u) k) → va_S (va_A (w4 h0 h1 h2 h3 cA cB cC f g u k) sz) s.heap H locs → ∀ (ls : Array Slot), lv_has ls 17 [(0, .ref h0), (1, .int (nI (2 ^ L))), (2, .int (nI P)), (3, .int q3), (5, .long (lN w1)), (7, .int (nI i))] → W p l e ({ frames := 2, cells := 0, slots := 0, locals := 55 } : Room) s m ([.ref h0, .int q1, .int q2, .int q3] : List Value).toArray below meth c H locs 0 0 (MQ below (kQi (dC, dI) [(cA, .long), (cB, .long), (cC, .long)] sz (w4 h0 h1 h2 h3 cA cB cC f g u k) (fun r w => (zrf q1 q2 r ∧ ¬ r = 0 ∧ w = w4 h0 h1 h2 h3 cA cB cC f g u k) ∨ (r = 0 ∧ ∃ L P w0 u2, zgo q1 q2 L P ∧ 2 ^ L ∣ P - 1 ∧ zW (2 ^ L) P w0 ∧ w = w4 h0 h1 h2 h3 cA cB cC (zT L P w0 q3 f) g u2 k))) ([.ref h0, .int q1, .int q2, .int q3] : List Value).toArray s 0 0 (va_A (w4 h0 h1 h2 h3 cA cB cC f g u k) sz)) (F0 m 41 ls []) := by
      intro w1 hw1 hq n
      induction n with
      | zero => intro i y1 y2; exact absurd y1 (by omega)
      | succ n ih =>
        intro i y1 y2 H locs hP hD hS ls hl
        refine lv_iload hx hb dX1_transform_41 (lv_at hl 5 rfl) ?_
        refine lv_iload_n hx hb dX1_transform_43 rfl (lv_at hl 1 rfl) ?_
        refine lv_icmp_ge (tgt := 71) hx hb dX1_transform_44 (by decide) (fun hc2 => ?_) (fun hc2 => ?_)
        · have hi : i = 2 ^ L := by have := (nI_leI (by omega) (by omega)).mp hc2; omega
          rw [hi] at hP hD
          refine lv_iload_n hx hb dX1_transform_71 rfl (lv_at hl 3 rfl) ?_
          refine lv_if_eq (tgt := 88) hx hb dX1_transform_72 (by decide) (fun hc3 => ?_) (fun hc3 => ?_)
          · have hw : w1 = w0 := by
              rcases hq with ⟨-, z⟩ | ⟨z, -⟩
              · exact z
              · exact absurd hc3 z
            have hfin : zem (2 ^ L) (fun k => zm P (w1 ^ k % P) (fun j => zrs P (f j)) (2 ^ L) * 1 % P) f = zT L P w0 q3 f := by
              rw [hw]; unfold zT; rw [if_pos hc3]
            refine lv_lconst (v := lN 1) hx hb dX1_transform_88 (by decide) ?_
            refine lv_lstore (lv' := [(7, .long (lN 1)), (0, .ref h0), (1, .int (nI (2 ^ L))), (2, .int (nI P)), (3, .int q3), (5, .long (lN w1))]) hx hb dX1_transform_89 hl (by decide) rfl (fun ls hl => ?_)
            have e3 : lN 1 = lN (w1 ^ 0 % P) := by rw [Nat.pow_zero, Nat.mod_eq_of_lt (by omega)]
            refine lv_lconst (v := lN 1) hx hb dX1_transform_91 (by decide) ?_
            refine kt_l e3 ?_
            refine lv_lstore (lv' := [(9, .long (lN (w1 ^ 0 % P))), (7, .long (lN 1)), (0, .ref h0), (1, .int (nI (2 ^ L))), (2, .int (nI P)), (3, .int q3), (5, .long (lN w1))]) hx hb dX1_transform_92 hl (by decide) rfl (fun ls hl => ?_)
            refine lv_iconst (v := nI 0) hx hb dX1_transform_94 (by decide) ?_
            refine lv_istore (lv' := [(11, .int (nI 0)), (9, .long (lN (w1 ^ 0 % P))), (7, .long (lN 1)), (0, .ref h0), (1, .int (nI (2 ^ L))), (2, .int (nI P)), (3, .int q3), (5, .long (lN w1))]) hx hb dX1_transform_95 hl (by decide) rfl (fun ls hl => ?_)
            exact main w1 1 hw1 (by omega) hfin (2 ^ L + 1) 0 (by omega) (by omega) H locs (by rw [zpt_0]; exact hP) (by rw [zpt_0]; exact hD) hS ls (lv_sub hl [3, 4, 5, 7, 2, 1, 0] rfl)
          · have hw : w1 = w0 ^ (P - 2) % P := by
              rcases hq with ⟨z, -⟩ | ⟨-, z⟩
              · exact absurd z hc3
              · exact z
            have hfin : zem (2 ^ L) (fun k => zm P (w1 ^ k % P) (fun j => zrs P (f j)) (2 ^ L) * ((2 ^ L) ^ (P - 2) % P) % P) f = zT L P w0 q3 f := by
              rw [hw]; unfold zT; rw [if_neg hc3]
            refine lv_iload_n hx hb dX1_transform_75 rfl (lv_at hl 1 rfl) ?_
            refine lv_i2l (v := lN (2 ^ L)) hx hb dX1_transform_76 (nI_l (by omega)) ?_
            refine lv_iload_n hx hb dX1_transform_77 rfl (lv_at hl 2 rfl) ?_
            refine lv_iconst (v := nI 2) hx hb dX1_transform_78 (by decide) ?_
            refine lv_isub hx hb dX1_transform_79 ?_
            refine kt_i (v := nI (P - 2)) (pk_sub (by omega)) ?_
            refine lv_i2l (v := lN (P - 2)) hx hb dX1_transform_80 (nI_l (by omega)) ?_
            refine lv_iload_n hx hb dX1_transform_81 rfl (lv_at hl 2 rfl) ?_
            refine kc_lv (As := [.long (lN (2 ^ L)), .long (lN (P - 2)), .int (nI P)]) (rest := []) ⟨hx, hb, hml, hown, hts⟩ (k_power l (2 ^ L) (P - 2) P hp2 (by omega) (by omega) (by omega)) (va_cwS 3 hts gX1_transform_X1_power rfl rfl rfl (by decide +kernel) ⟨Nat.le_of_ble_eq_true rfl, Nat.le_of_ble_eq_true rfl⟩) rfl hl.1 rfl (Nat.le_of_ble_eq_true rfl) dX1_transform_82 ⟨Nat.zero_le _, Nat.zero_le _⟩ ?_
            refine lv_goto (tgt := 89) hx hb dX1_transform_85 (by decide) ?_
            refine lv_lstore (lv' := [(7, .long (lN ((2 ^ L) ^ (P - 2) % P))), (0, .ref h0), (1, .int (nI (2 ^ L))), (2, .int (nI P)), (3, .int q3), (5, .long (lN w1))]) hx hb dX1_transform_89 hl (by decide) rfl (fun ls hl => ?_)
            have e3 : lN 1 = lN (w1 ^ 0 % P) := by rw [Nat.pow_zero, Nat.mod_eq_of_lt (by omega)]
            refine lv_lconst (v := lN 1) hx hb dX1_transform_91 (by decide) ?_
            refine kt_l e3 ?_
            refine lv_lstore (lv' := [(9, .long (lN (w1 ^ 0 % P))), (7, .long (lN ((2 ^ L) ^ (P - 2) % P))), (0, .ref h0), (1, .int (nI (2 ^ L))), (2, .int (nI P)), (3, .int q3), (5, .long (lN w1))]) hx hb dX1_transform_92 hl (by decide) rfl (fun ls hl => ?_)
            refine lv_iconst (v := nI 0) hx hb dX1_transform_94 (by decide) ?_
            refine lv_istore (lv' := [(11, .int (nI 0)), (9, .long (lN (w1 ^ 0 % P))), (7, .long (lN ((2 ^ L) ^ (P - 2) % P))), (0, .ref h0), (1, .int (nI (2 ^ L))), (2, .int (nI P)), (3, .int q3), (5, .long (lN w1))]) hx hb dX1_transform_95 hl (by decide) rfl (fun ls hl => ?_)
            exact main w1 _ hw1 (Nat.mod_lt _ (by omega)) hfin (2 ^ L + 1) 0 (by omega) (by omega) H locs (by rw [zpt_0]; exact hP) (by rw [zpt_0]; exact hD) hS ls (lv_sub hl [3, 4, 5, 7, 2, 1, 0] rfl)
        · have hi : i < 2 ^ L := Nat.not_le.mp fun z => hc2 ((nI_leI (by omega) (by omega)).mpr z)
          refine lv_aload_n hx hb dX1_transform_47 rfl (lv_at hl 0 rfl) ?_
          refine va_get (D := (dC, dI)) (ci := 1) (v := .ref h3) (C := RX1) (T := TX1) (N := 4) hx hb hts inws hown hK hP 0 rfl rfl 2 (by decide) (hts (.fieldLink RX1 16 "ResidueTransformsModel" "work" "[J") (by decide +kernel)) (fun _ h9 => h9) rfl dX1_transform_48 ?_
          refine lv_iload hx hb dX1_transform_51 (lv_at hl 5 rfl) ?_
          refine lv_aload_n hx hb dX1_transform_53 rfl (lv_at hl 0 rfl) ?_
          refine va_get (D := (dC, dI)) (ci := 1) (v := .ref h1) (C := RX1) (T := TX1) (N := 4) hx hb hts inws hown hK hP 0 rfl rfl 0 (by decide) (hts (.fieldLink RX1 9 "ResidueTransformsModel" "row" "[J") (by decide +kernel)) (fun _ h9 => h9) rfl dX1_transform_54 ?_
          refine lv_iload hx hb dX1_transform_57 (lv_at hl 5 rfl) ?_
          refine ka_ld hx hb hK hP 1 0 rfl rfl (i := i) (by omega) (by decide) dX1_transform_59 ?_
          refine lv_iload_n hx hb dX1_transform_60 rfl (lv_at hl 2 rfl) ?_
          refine kc_lv (As := [.long (f (i)), .int (nI P)]) (rest := [.int (nI i), .ref h3]) ⟨hx, hb, hml, hown, hts⟩ (k_rest l (f i) P (by omega) (by omega)) (va_cwS 2 hts gX1_transform_X1_rest rfl rfl rfl (by decide +kernel) ⟨Nat.le_of_ble_eq_true rfl, Nat.le_of_ble_eq_true rfl⟩) rfl hl.1 rfl (Nat.le_of_ble_eq_true rfl) dX1_transform_61 ⟨Nat.zero_le _, Nat.zero_le _⟩ ?_
          refine ka_st (w1 := w4 h0 h1 h2 h3 cA cB cC f g (zpt (i + 1) (fun j => lN (zrs P (f j))) u) k) hx hb hK hP hD hS 3 2 rfl rfl (i := i) (by omega) (by decide) dX1_transform_64 (congrArg (fun z => w4 h0 h1 h2 h3 cA cB cC f g z k) (zpt_up rfl)) (fun H locs hP hD hS => ?_)
          refine lv_iinc (v := nI (i + 1)) (lv' := [(7, .int (nI (i + 1))), (0, .ref h0), (1, .int (nI (2 ^ L))), (2, .int (nI P)), (3, .int q3), (5, .long (lN w1))]) hx hb dX1_transform_65 hl (k := 5) rfl (nI_1 i) (by decide) rfl (fun ls hl => ?_)
          refine lv_goto (tgt := 41) hx hb dX1_transform_68 (by decide) ?_
          exact ih (i + 1) (by omega) (by omega) H locs hP hD hS ls (lv_sub hl [1, 2, 3, 4, 5, 0] rfl)
    refine lv_iload_n hx hb dX1_transform_15 rfl (lv_at hl 2 rfl) ?_
    refine lv_iload_n hx hb dX1_transform_16 rfl (lv_at hl 3 rfl) ?_
    refine kc_lv (As := [.int (nI (2 ^ L)), .int (nI P)]) (rest := []) ⟨hx, hb, hml, hown, hts⟩ (k_rootOf l (2 ^ L) P w0 hp2 hp1 (by omega) (by omega) hW) (va_cwS 2 hts gX1_transform_X1_rootOf rfl rfl rfl (by decide +kernel) ⟨Nat.le_of_ble_eq_true rfl, Nat.le_of_ble_eq_true rfl⟩) rfl hl.1 rfl (Nat.le_of_ble_eq_true rfl) dX1_transform_17 ⟨Nat.zero_le _, Nat.zero_le _⟩ ?_
    refine lv_lstore (lv' := [(5, .long (lN w0)), (4, .int r1), (0, .ref h0), (1, .int (nI (2 ^ L))), (2, .int (nI P)), (3, .int q3)]) hx hb dX1_transform_20 hl (by decide) rfl (fun ls hl => ?_)
    refine lv_iload_n hx hb dX1_transform_22 rfl (lv_at hl 5 rfl) ?_
    refine lv_if_eq (tgt := 38) hx hb dX1_transform_23 (by decide) (fun hc2 => ?_) (fun hc2 => ?_)
    · refine lv_iconst (v := nI 0) hx hb dX1_transform_38 (by decide) ?_
      refine lv_istore (lv' := [(7, .int (nI 0)), (5, .long (lN w0)), (4, .int r1), (0, .ref h0), (1, .int (nI (2 ^ L))), (2, .int (nI P)), (3, .int q3)]) hx hb dX1_transform_39 hl (by decide) rfl (fun ls hl => ?_)
      exact fill w0 hw0 (Or.inl ⟨hc2, rfl⟩) (2 ^ L + 1) 0 (by omega) (by omega) _ _ (by rw [zpt_0]; exact hP) (by rw [zpt_0]; exact hD) hS ls (lv_sub hl [3, 4, 5, 6, 1, 0] rfl)
    · refine lv_lload hx hb dX1_transform_26 (lv_at hl 0 rfl) ?_
      refine lv_iload_n hx hb dX1_transform_28 rfl (lv_at hl 4 rfl) ?_
      refine lv_iconst (v := nI 2) hx hb dX1_transform_29 (by decide) ?_
      refine lv_isub hx hb dX1_transform_30 ?_
      refine kt_i (v := nI (P - 2)) (pk_sub (by omega)) ?_
      refine lv_i2l (v := lN (P - 2)) hx hb dX1_transform_31 (nI_l (by omega)) ?_
      refine lv_iload_n hx hb dX1_transform_32 rfl (lv_at hl 4 rfl) ?_
      refine kc_lv (As := [.long (lN w0), .long (lN (P - 2)), .int (nI P)]) (rest := []) ⟨hx, hb, hml, hown, hts⟩ (k_power l w0 (P - 2) P hp2 (by omega) (by omega) (by omega)) (va_cwS 3 hts gX1_transform_X1_power rfl rfl rfl (by decide +kernel) ⟨Nat.le_of_ble_eq_true rfl, Nat.le_of_ble_eq_true rfl⟩) rfl hl.1 rfl (Nat.le_of_ble_eq_true rfl) dX1_transform_33 ⟨Nat.zero_le _, Nat.zero_le _⟩ ?_
      refine lv_lstore (lv' := [(5, .long (lN (w0 ^ (P - 2) % P))), (4, .int r1), (0, .ref h0), (1, .int (nI (2 ^ L))), (2, .int (nI P)), (3, .int q3)]) hx hb dX1_transform_36 hl (by decide) rfl (fun ls hl => ?_)
      refine lv_iconst (v := nI 0) hx hb dX1_transform_38 (by decide) ?_
      refine lv_istore (lv' := [(7, .int (nI 0)), (5, .long (lN (w0 ^ (P - 2) % P))), (4, .int r1), (0, .ref h0), (1, .int (nI (2 ^ L))), (2, .int (nI P)), (3, .int q3)]) hx hb dX1_transform_39 hl (by decide) rfl (fun ls hl => ?_)
      exact fill _ (Nat.mod_lt _ (by omega)) (Or.inr ⟨hc2, rfl⟩) (2 ^ L + 1) 0 (by omega) (by omega) _ _ (by rw [zpt_0]; exact hP) (by rw [zpt_0]; exact hD) hS ls (lv_sub hl [3, 4, 5, 6, 1, 0] rfl)
  · refine lv_iload hx hb dX1_transform_12 (lv_at hl 0 rfl) ?_
    exact kr_i hx hb hr hlocks hK hP hD hS (Or.inl ⟨hr1, fun z => hc (by rw [z]; decide), rfl⟩) dX1_transform_14
set_option maxHeartbeats 4000000 in
set_option maxRecDepth 100000 in
theorem k_init (l : Launch) (dC : Nat → ClassId) (dI : Nat → Nat → Nat) (h0 sz : Nat) : Met l yX1_init wsX1_init ({ frames := 1, cells := 3, slots := 3072, locals := 20 }) (kPre (dC, dI) [] [.ref h0] sz ([(h0, .inr (1, [.null, .null, .null, .int 0]))])) (va_Qv (fun _ : Nat × Nat × Nat × ClassId × ClassId × ClassId => True) (fun (u : Nat × Nat × Nat × ClassId × ClassId × ClassId) t => match u with | (h1, h2, h3, cA, cB, cC) => kAt (dC, dI) [(cA, .long), (cB, .long), (cC, .long)] sz ([(h0, .inr (1, [.null, .null, .null, .int 0]))]) (w4 h0 h1 h2 h3 cA cB cC (fun _ => 0) (fun _ => 0) (fun _ => 0) 0) t) (va_A ([(h0, .inr (1, [.null, .null, .null, .int 0]))]) sz)) 3 3072 (va_A ([(h0, .inr (1, [.null, .null, .null, .int 0]))]) sz) := by
  refine k_met (cc := cX1_init) (maxL := 1) (ret := none) (by decide) rfl (Nat.le_of_ble_eq_true rfl) ?_
  intro p e s m below meth c ls hx hb hr hlocks hml hown hts hnm hK hP hD hS hA hl
  have hl : lv_has ls 1 [(0, .ref h0)] := hl
  have inws : ∀ w ∈ u_ws RX1 TX1 4, w ∈ wsX1_init := by decide +kernel
  have hin : meth.name = "<init>" := hnm
  refine lv_aload_n hx hb dX1_init_0 rfl (lv_at hl 0 rfl) ?_
  refine W.objInit hx hb hown (hts (.methodLink RX1 1 objectInit) (by decide +kernel)) (hts (.instanceMethod objectInit) (by decide +kernel)) (hts _ (List.mem_cons_of_mem _ (List.mem_append_left _ (List.mem_of_getElem? (i := 2) rfl)))) rfl (by rw [hml]; exact hl.1) rfl dX1_init_1 (Nat.le_of_ble_eq_true rfl) (Nat.le_of_ble_eq_true rfl) ?_
  refine W.eq (g2 := F0 m 4 ls []) rfl ?_
  refine lv_aload_n hx hb dX1_init_4 rfl (lv_at hl 0 rfl) ?_
  refine lv_sipush (v := nI 1024) hx hb dX1_init_5 (by decide) ?_
  refine va_newa (atype := .long) (ty := .long) (a0 := (1024, .inr (.inl (fun _ => 0)))) (N' := 1024) hx hb (hts (.arrayClass .long) (by decide +kernel)) rfl hK hP hD hS hA (fun _ => rfl) (nI_pos (by decide)) (nI_clamp (by decide)) (by decide) (Nat.le_of_ble_eq_true rfl) (Nat.le_of_ble_eq_true rfl) dX1_init_8 (fun h1 cA H hK hP hD hS => ?_)
  have hK : va_K (dC, dI) vwCl [(cA, .long)] s := hK
  have hP : va_P (dC, dI) vwCl [(h0, .inr (1, [.null, .null, .null, .int 0])), (h1, .inl (cA, 1024, .inr (.inl (fun _ => 0))))] H := hP
  have hD : va_D (va_A ([(h0, .inr (1, [.null, .null, .null, .int 0]))]) sz) [(h0, .inr (1, [.null, .null, .null, .int 0])), (h1, .inl (cA, 1024, .inr (.inl (fun _ => 0))))] := hD
  refine W.widen (k := 1) (n := 1024) (by omega) (by omega) ?_
  refine va_putF (D := (dC, dI)) (ci := 1) (v := .ref h1) (ty := .array .long) (C := RX1) (T := TX1) (N := 4) hx hb hts inws tyX1 tyX1_ok nmX1 hown hK hP hD hS 0 rfl rfl 0 (by decide) (hts (.fieldLink RX1 9 "ResidueTransformsModel" "row" "[J") (by decide +kernel)) (fun _ h9 => h9) rfl hin rfl (by decide +kernel) rfl rfl (Nat.le_of_ble_eq_true rfl) dX1_init_10 (fun H locs hP hD hS => ?_)
  have hP : va_P (dC, dI) vwCl [(h0, .inr (1, [.ref h1, .null, .null, .int 0])), (h1, .inl (cA, 1024, .inr (.inl (fun _ => 0))))] H := hP
  have hD : va_D (va_A ([(h0, .inr (1, [.null, .null, .null, .int 0]))]) sz) [(h0, .inr (1, [.ref h1, .null, .null, .int 0])), (h1, .inl (cA, 1024, .inr (.inl (fun _ => 0))))] := hD
  refine lv_aload_n hx hb dX1_init_13 rfl (lv_at hl 0 rfl) ?_
  refine lv_sipush (v := nI 1024) hx hb dX1_init_14 (by decide) ?_
  refine va_newa (atype := .long) (ty := .long) (a0 := (1024, .inr (.inl (fun _ => 0)))) (N' := 1024) hx hb (hts (.arrayClass .long) (by decide +kernel)) rfl hK hP hD hS hA (fun _ => rfl) (nI_pos (by decide)) (nI_clamp (by decide)) (by decide) (Nat.le_of_ble_eq_true rfl) (Nat.le_of_ble_eq_true rfl) dX1_init_17 (fun h2 cB H hK hP hD hS => ?_)
  have hK : va_K (dC, dI) vwCl [(cA, .long), (cB, .long)] s := hK
  have hP : va_P (dC, dI) vwCl [(h0, .inr (1, [.ref h1, .null, .null, .int 0])), (h1, .inl (cA, 1024, .inr (.inl (fun _ => 0)))), (h2, .inl (cB, 1024, .inr (.inl (fun _ => 0))))] H := hP
  have hD : va_D (va_A ([(h0, .inr (1, [.null, .null, .null, .int 0]))]) sz) [(h0, .inr (1, [.ref h1, .null, .null, .int 0])), (h1, .inl (cA, 1024, .inr (.inl (fun _ => 0)))), (h2, .inl (cB, 1024, .inr (.inl (fun _ => 0))))] := hD
  refine W.widen (k := 2) (n := 2048) (by omega) (by omega) ?_
  refine va_putF (D := (dC, dI)) (ci := 1) (v := .ref h2) (ty := .array .long) (C := RX1) (T := TX1) (N := 4) hx hb hts inws tyX1 tyX1_ok nmX1 hown hK hP hD hS 0 rfl rfl 1 (by decide) (hts (.fieldLink RX1 13 "ResidueTransformsModel" "kept" "[J") (by decide +kernel)) (fun _ h9 => h9) rfl hin rfl (by decide +kernel) rfl rfl (Nat.le_of_ble_eq_true rfl) dX1_init_19 (fun H locs hP hD hS => ?_)
  have hP : va_P (dC, dI) vwCl [(h0, .inr (1, [.ref h1, .ref h2, .null, .int 0])), (h1, .inl (cA, 1024, .inr (.inl (fun _ => 0)))), (h2, .inl (cB, 1024, .inr (.inl (fun _ => 0))))] H := hP
  have hD : va_D (va_A ([(h0, .inr (1, [.null, .null, .null, .int 0]))]) sz) [(h0, .inr (1, [.ref h1, .ref h2, .null, .int 0])), (h1, .inl (cA, 1024, .inr (.inl (fun _ => 0)))), (h2, .inl (cB, 1024, .inr (.inl (fun _ => 0))))] := hD
  refine lv_aload_n hx hb dX1_init_22 rfl (lv_at hl 0 rfl) ?_
  refine lv_sipush (v := nI 1024) hx hb dX1_init_23 (by decide) ?_
  refine va_newa (atype := .long) (ty := .long) (a0 := (1024, .inr (.inl (fun _ => 0)))) (N' := 1024) hx hb (hts (.arrayClass .long) (by decide +kernel)) rfl hK hP hD hS hA (fun _ => rfl) (nI_pos (by decide)) (nI_clamp (by decide)) (by decide) (Nat.le_of_ble_eq_true rfl) (Nat.le_of_ble_eq_true rfl) dX1_init_26 (fun h3 cC H hK hP hD hS => ?_)
  have hK : va_K (dC, dI) vwCl [(cA, .long), (cB, .long), (cC, .long)] s := hK
  have hP : va_P (dC, dI) vwCl [(h0, .inr (1, [.ref h1, .ref h2, .null, .int 0])), (h1, .inl (cA, 1024, .inr (.inl (fun _ => 0)))), (h2, .inl (cB, 1024, .inr (.inl (fun _ => 0)))), (h3, .inl (cC, 1024, .inr (.inl (fun _ => 0))))] H := hP
  have hD : va_D (va_A ([(h0, .inr (1, [.null, .null, .null, .int 0]))]) sz) [(h0, .inr (1, [.ref h1, .ref h2, .null, .int 0])), (h1, .inl (cA, 1024, .inr (.inl (fun _ => 0)))), (h2, .inl (cB, 1024, .inr (.inl (fun _ => 0)))), (h3, .inl (cC, 1024, .inr (.inl (fun _ => 0))))] := hD
  refine W.widen (k := 3) (n := 3072) (by omega) (by omega) ?_
  refine va_putF (D := (dC, dI)) (ci := 1) (v := .ref h3) (ty := .array .long) (C := RX1) (T := TX1) (N := 4) hx hb hts inws tyX1 tyX1_ok nmX1 hown hK hP hD hS 0 rfl rfl 2 (by decide) (hts (.fieldLink RX1 16 "ResidueTransformsModel" "work" "[J") (by decide +kernel)) (fun _ h9 => h9) rfl hin rfl (by decide +kernel) rfl rfl (Nat.le_of_ble_eq_true rfl) dX1_init_28 (fun H locs hP hD hS => ?_)
  have hP : va_P (dC, dI) vwCl [(h0, .inr (1, [.ref h1, .ref h2, .ref h3, .int 0])), (h1, .inl (cA, 1024, .inr (.inl (fun _ => 0)))), (h2, .inl (cB, 1024, .inr (.inl (fun _ => 0)))), (h3, .inl (cC, 1024, .inr (.inl (fun _ => 0))))] H := hP
  have hD : va_D (va_A ([(h0, .inr (1, [.null, .null, .null, .int 0]))]) sz) [(h0, .inr (1, [.ref h1, .ref h2, .ref h3, .int 0])), (h1, .inl (cA, 1024, .inr (.inl (fun _ => 0)))), (h2, .inl (cB, 1024, .inr (.inl (fun _ => 0)))), (h3, .inl (cC, 1024, .inr (.inl (fun _ => 0))))] := hD
  exact W.vret hx hb hr (fun t ht hW => ⟨⟨(h1, h2, h3, cA, cB, cC), rfl, trivial, by rw [ht]; exact hP, va_K.moved hW.alike hK, hD⟩, hS.F ht⟩) hS.2.2 dX1_init_31
