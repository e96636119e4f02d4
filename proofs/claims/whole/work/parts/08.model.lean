/-! the static methods of the reference -/
set_option maxHeartbeats 4000000 in
set_option maxRecDepth 100000 in
theorem k_isPrime (l : Launch) (q : Int32) : Met l yX1_isPrime wsX1_isPrime ({ frames := 0, cells := 0, slots := 0, locals := 0 }) (va_Pc [.int q] (fun _ => True)) (vp_Si (fun r => (r = 1 ∧ zok q) ∨ (r = 0 ∧ ¬ zok q))) 0 0 (fun _ => False) := by
  refine k_metS (cc := cX1_isPrime) (maxL := 2) (ret := (some .boolean)) (by decide +kernel) rfl (Nat.le_of_ble_eq_true rfl) ?_
  intro p e s m below meth c ls hx hb hr hlocks hml hown hts hl
  have hl : lv_has ls 2 [(0, .int q)] := hl
  refine lv_iload_n hx hb dX1_isPrime_0 rfl (lv_at hl 0 rfl) ?_
  refine lv_iconst (v := (3 : Int32)) hx hb dX1_isPrime_1 (by decide) ?_
  refine lv_icmp_lt (tgt := 11) hx hb dX1_isPrime_2 (by decide) (fun hc => ?_) (fun hc => ?_)
  · refine lv_iconst (v := (0 : Int32)) hx hb dX1_isPrime_11 (by decide) ?_
    exact kr_Sz hx hb hr rfl hlocks (Or.inr ⟨rfl, zok_lo hc⟩) dX1_isPrime_12
  · refine lv_iload_n hx hb dX1_isPrime_5 rfl (lv_at hl 0 rfl) ?_
    refine lv_ldc hx hb hown (hts (.constant RX1 23 (1000000007)) (by decide +kernel)) dX1_isPrime_6 ?_
    refine lv_icmp_le (tgt := 13) hx hb dX1_isPrime_8 (by decide) (fun hc2 => ?_) (fun hc2 => ?_)
    · obtain ⟨P, rfl, j1, j2⟩ := zi_of 3 1000000007 (by decide) (by decide) hc (Int32.not_lt.mpr hc2)
      have hkey := zok_nI (P := P) (by omega)
      refine lv_iconst (v := nI 2) hx hb dX1_isPrime_13 (by decide) ?_
      refine lv_istore_n (lv' := [(1, .int (nI 2)), (0, .int (nI P))]) hx hb dX1_isPrime_14 rfl hl (by decide) rfl (fun ls hl => ?_)
      have loop : ∀ (n d : Nat), 31625 ≤ d + n → 2 ≤ d → d ≤ 31624 → (∀ z, 2 ≤ z → z < d → ¬ z ∣ P) → ∀ (ls : Array Slot), lv_has ls 2 [(0, .int (nI P)), (1, .int (nI d))] → W p l e ({ frames := 0, cells := 0, slots := 0, locals := 0 } : Room) s m ([.int (nI P)] : List Value).toArray below meth c s.heap [] 0 0 (MQ below (vp_Si (fun r => (r = 1 ∧ zok (nI P)) ∨ (r = 0 ∧ ¬ zok (nI P)))) ([.int (nI P)] : List Value).toArray s 0 0 (fun _ => False)) (F0 m 15 ls []) := by
        intro n
        induction n with
        | zero => intro d h1 h2 h3; exact absurd h1 (by omega)
        | succ n ih =>
          intro d h1 h2 h3 h5 ls hl
          have hdd : d * d ≤ 31624 * 31624 := Nat.mul_le_mul h3 h3
          refine lv_iload_n hx hb dX1_isPrime_15 rfl (lv_at hl 1 rfl) ?_
          refine lv_i2l (v := lN d) hx hb dX1_isPrime_16 (nI_l (by omega)) ?_
          refine lv_iload_n hx hb dX1_isPrime_17 rfl (lv_at hl 1 rfl) ?_
          refine lv_i2l (v := lN d) hx hb dX1_isPrime_18 (nI_l (by omega)) ?_
          refine lv_lmul hx hb dX1_isPrime_19 ?_
          refine kt_l (v := lN (d * d)) (lN_mul d d) ?_
          refine lv_iload_n hx hb dX1_isPrime_20 rfl (lv_at hl 0 rfl) ?_
          refine lv_i2l (v := lN P) hx hb dX1_isPrime_21 (nI_l (by omega)) ?_
          refine W.lcmp hx hb dX1_isPrime_22 ?_
          refine lv_if_gt (tgt := 40) hx hb dX1_isPrime_23 (by decide) (fun hc4 => ?_) (fun hc4 => ?_)
          · have hlt : P < d * d := (pk_lLT (by omega) (by omega)).mp ((lg_cmp_gt _ _).mp hc4)
            refine lv_iconst (v := (1 : Int32)) hx hb dX1_isPrime_40 (by decide) ?_
            exact kr_Sz hx hb hr rfl hlocks (Or.inl ⟨rfl, hkey.mpr ⟨j1, j2, z_td_all h5 hlt⟩⟩) dX1_isPrime_41
          · have hle : d * d ≤ P := Nat.not_lt.mp fun z => hc4 ((lg_cmp_gt _ _).mpr ((pk_lLT (by omega) (by omega)).mpr z))
            have hd5 : d ≤ 31622 := z_sq (by omega)
            refine lv_iload_n hx hb dX1_isPrime_26 rfl (lv_at hl 0 rfl) ?_
            refine lv_iload_n hx hb dX1_isPrime_27 rfl (lv_at hl 1 rfl) ?_
            refine lv_irem hx hb dX1_isPrime_28 (nI_ne0 (by omega) (by omega)) ?_
            refine kt_i (v := nI (P % d)) (pk_rem (by omega) (by omega) (by omega)) ?_
            refine lv_if_ne (tgt := 34) hx hb dX1_isPrime_29 (by decide) (fun hc5 => ?_) (fun hc5 => ?_)
            · have hnd : ¬ d ∣ P := by
                intro z
                exact hc5 (by rw [Nat.mod_eq_zero_of_dvd z]; rfl)
              refine lv_iinc (v := nI (d + 1)) (lv' := [(1, .int (nI (d + 1))), (0, .int (nI P))]) hx hb dX1_isPrime_34 hl (k := 1) rfl (nI_1 d) (by decide) rfl (fun ls hl => ?_)
              refine lv_goto (tgt := 15) hx hb dX1_isPrime_37 (by decide) ?_
              refine ih (d + 1) (by omega) (by omega) (by omega) (fun z z1 z3 => ?_) ls (lv_sub hl [1, 0] rfl)
              rcases Nat.lt_or_ge z d with y | y
              · exact h5 z z1 y
              · have : z = d := by omega
                rw [this]; exact hnd
            · have hd0 : P % d = 0 := (nI_eq (by have := Nat.mod_lt P (show 0 < d by omega); omega) (by omega)).mp (hc5.trans nI_0.symm)
              refine lv_iconst (v := (0 : Int32)) hx hb dX1_isPrime_32 (by decide) ?_
              refine kr_Sz hx hb hr rfl hlocks (Or.inr ⟨rfl, fun z => ?_⟩) dX1_isPrime_33
              exact (hkey.mp z).2.2 d (by omega) hle (Nat.dvd_of_mod_eq_zero hd0)
      exact loop 31625 2 (by omega) (by omega) (by omega) (fun z z1 z3 => absurd z3 (by omega)) ls (lv_sub hl [1, 0] rfl)
    · refine lv_iconst (v := (0 : Int32)) hx hb dX1_isPrime_11 (by decide) ?_
      exact kr_Sz hx hb hr rfl hlocks (Or.inr ⟨rfl, zok_hi (Int32.not_le.mp hc2)⟩) dX1_isPrime_12
set_option maxHeartbeats 4000000 in
set_option maxRecDepth 100000 in
theorem k_rest (l : Launch) (v : Int64) (P : Nat) (h0 : 0 < P) (h : P < 2 ^ 31) : Met l yX1_rest wsX1_rest ({ frames := 0, cells := 0, slots := 0, locals := 0 }) (va_Pc [.long v, .int (nI P)] (fun _ => True)) (vp_Sl (fun r => r = lN (zrs P v))) 0 0 (fun _ => False) := by
  refine k_metS (cc := cX1_rest) (maxL := 3) (ret := (some .long)) (by decide +kernel) rfl (Nat.le_of_ble_eq_true rfl) ?_
  intro p e s m below meth c ls hx hb hr hlocks hml hown hts hl
  have hl : lv_has ls 3 [(0, .long v), (2, .int (nI P))] := hl
  refine lv_lload_n hx hb dX1_rest_0 rfl (lv_at hl 0 rfl) ?_
  refine lv_iload_n hx hb dX1_rest_1 rfl (lv_at hl 1 rfl) ?_
  refine lv_i2l (v := lN P) hx hb dX1_rest_2 (nI_l h) ?_
  refine lv_lrem hx hb dX1_rest_3 (zl_ne h0 (by omega)) ?_
  refine lv_iload_n hx hb dX1_rest_4 rfl (lv_at hl 1 rfl) ?_
  refine lv_i2l (v := lN P) hx hb dX1_rest_5 (nI_l h) ?_
  refine lv_ladd hx hb dX1_rest_6 ?_
  refine lv_iload_n hx hb dX1_rest_7 rfl (lv_at hl 1 rfl) ?_
  refine lv_i2l (v := lN P) hx hb dX1_rest_8 (nI_l h) ?_
  refine lv_lrem hx hb dX1_rest_9 (zl_ne h0 (by omega)) ?_
  refine kt_l (v := lN (zrs P v)) (zfm_ref h0 h) ?_
  exact kr_Sl hx hb hr hlocks rfl dX1_rest_10
set_option maxHeartbeats 4000000 in
set_option maxRecDepth 100000 in
theorem k_power (l : Launch) (av E P : Nat) (hP : P ≤ 1000000007) (ha : av < 2 ^ 63) (h1 : 1 < P) (hE : E < 2 ^ 31) : Met l yX1_power wsX1_power ({ frames := 0, cells := 0, slots := 0, locals := 0 }) (va_Pc [.long (lN av), .long (lN E), .int (nI P)] (fun _ => True)) (vp_Sl (fun r => r = lN (av ^ E % P))) 0 0 (fun _ => False) := by
  refine k_metS (cc := cX1_power) (maxL := 11) (ret := (some .long)) (by decide +kernel) rfl (Nat.le_of_ble_eq_true rfl) ?_
  intro p e s m below meth c ls hx hb hr hlocks hml hown hts hl
  have hl : lv_has ls 11 [(0, .long (lN av)), (2, .long (lN E)), (4, .int (nI P))] := hl
  refine lv_lconst (v := lN 1) hx hb dX1_power_0 (by decide) ?_
  refine lv_lstore (lv' := [(5, .long (lN 1)), (0, .long (lN av)), (2, .long (lN E)), (4, .int (nI P))]) hx hb dX1_power_1 hl (by decide) rfl (fun ls hl => ?_)
  refine lv_lload_n hx hb dX1_power_3 rfl (lv_at hl 1 rfl) ?_
  refine lv_iload hx hb dX1_power_4 (lv_at hl 3 rfl) ?_
  refine lv_i2l (v := lN P) hx hb dX1_power_6 (nI_l (by omega)) ?_
  refine lv_lrem hx hb dX1_power_7 (zl_ne (by omega) (by omega)) ?_
  refine kt_l (v := lN (av % P)) (pk_lRem ha (by omega) (by omega)) ?_
  refine lv_lstore (lv' := [(7, .long (lN (av % P))), (5, .long (lN 1)), (0, .long (lN av)), (2, .long (lN E)), (4, .int (nI P))]) hx hb dX1_power_8 hl (by decide) rfl (fun ls hl => ?_)
  refine lv_lload_n hx hb dX1_power_10 rfl (lv_at hl 3 rfl) ?_
  refine lv_lstore (lv' := [(9, .long (lN E)), (7, .long (lN (av % P))), (5, .long (lN 1)), (0, .long (lN av)), (2, .long (lN E)), (4, .int (nI P))]) hx hb dX1_power_11 hl (by decide) rfl (fun ls hl => ?_)
  have loop : ∀ (n r b q : Nat), q < n → q < 2 ^ 31 → r < P → b < P → r * b ^ q % P = av ^ E % P → ∀ (ls : Array Slot), lv_has ls 11 [(0, .long (lN av)), (2, .long (lN E)), (4, .int (nI P)), (5, .long (lN r)), (7, .long (lN b)), (9, .long (lN q))] → W p l e ({ frames := 0, cells := 0, slots := 0, locals := 0 } : Room) s m ([.long (lN av), .long (lN E), .int (nI P)] : List Value).toArray below meth c s.heap [] 0 0 (MQ below (vp_Sl (fun r => r = lN (av ^ E % P))) ([.long (lN av), .long (lN E), .int (nI P)] : List Value).toArray s 0 0 (fun _ => False)) (F0 m 13 ls []) := by
    intro n
    induction n with
    | zero => intro r b q h1; exact absurd h1 (Nat.not_lt_zero _)
    | succ n ih =>
      intro r b q hqn hq hrP hbP hinv ls hl
      have tail : ∀ (r2 : Nat), r2 < P → r2 * (b * b % P) ^ (q / 2) % P = av ^ E % P → 0 < q → ∀ (ls : Array Slot), lv_has ls 11 [(0, .long (lN av)), (2, .long (lN E)), (4, .int (nI P)), (5, .long (lN r2)), (7, .long (lN b)), (9, .long (lN q))] → W p l e ({ frames := 0, cells := 0, slots := 0, locals := 0 } : Room) s m ([.long (lN av), .long (lN E), .int (nI P)] : List Value).toArray below meth c s.heap [] 0 0 (MQ below (vp_Sl (fun r => r = lN (av ^ E % P))) ([.long (lN av), .long (lN E), .int (nI P)] : List Value).toArray s 0 0 (fun _ => False)) (F0 m 42 ls []) := by
        intro r2 hr2 hinv2 hq0 ls hl
        refine lv_lload hx hb dX1_power_42 (lv_at hl 4 rfl) ?_
        refine lv_lload hx hb dX1_power_44 (lv_at hl 4 rfl) ?_
        refine lv_lmul hx hb dX1_power_46 ?_
        refine lv_iload hx hb dX1_power_47 (lv_at hl 2 rfl) ?_
        refine lv_i2l (v := lN P) hx hb dX1_power_49 (nI_l (by omega)) ?_
        refine lv_lrem hx hb dX1_power_50 (zl_ne (by omega) (by omega)) ?_
        refine kt_l (v := lN (b * b % P)) (z_pr hP hbP hbP) ?_
        refine lv_lstore (lv' := [(7, .long (lN (b * b % P))), (0, .long (lN av)), (2, .long (lN E)), (4, .int (nI P)), (5, .long (lN r2)), (9, .long (lN q))]) hx hb dX1_power_51 hl (by decide) rfl (fun ls hl => ?_)
        refine lv_lload hx hb dX1_power_53 (lv_at hl 5 rfl) ?_
        refine lv_ldc2 hx hb hown (hts (.constantLong RX1 24 (2)) (by decide +kernel)) dX1_power_55 ?_
        refine kt_l (v := lN 2) (rfl) ?_
        refine lv_ldiv hx hb dX1_power_58 (by decide) ?_
        refine kt_l (v := lN (q / 2)) (pk_lDiv (by omega) (by omega) (by omega)) ?_
        refine lv_lstore (lv' := [(9, .long (lN (q / 2))), (7, .long (lN (b * b % P))), (0, .long (lN av)), (2, .long (lN E)), (4, .int (nI P)), (5, .long (lN r2))]) hx hb dX1_power_59 hl (by decide) rfl (fun ls hl => ?_)
        refine lv_goto (tgt := 13) hx hb dX1_power_61 (by decide) ?_
        exact ih r2 (b * b % P) (q / 2) (by omega) (by omega) hr2 (Nat.mod_lt _ (by omega)) hinv2 ls (lv_sub hl [2, 3, 4, 5, 1, 0] rfl)
      refine lv_lload hx hb dX1_power_13 (lv_at hl 5 rfl) ?_
      refine lv_lconst (v := lN 0) hx hb dX1_power_15 (by decide) ?_
      refine W.lcmp hx hb dX1_power_16 ?_
      refine lv_if_le (tgt := 64) hx hb dX1_power_17 (by decide) (fun hc => ?_) (fun hc => ?_)
      · have hq0 : q = 0 := by have := (pk_lLE (by omega) (by omega)).mp ((lg_cmp_le _ _).mp hc); omega
        subst hq0
        refine lv_lload hx hb dX1_power_64 (lv_at hl 3 rfl) ?_
        exact kr_Sl hx hb hr hlocks (by rw [← hinv, Nat.pow_zero, Nat.mul_one, Nat.mod_eq_of_lt hrP]) dX1_power_66
      · have hq0 : 0 < q := Nat.pos_of_ne_zero fun z => hc ((lg_cmp_le _ _).mpr (by rw [z]; exact Int64.le_refl _))
        refine lv_lload hx hb dX1_power_20 (lv_at hl 5 rfl) ?_
        refine lv_ldc2 hx hb hown (hts (.constantLong RX1 24 (2)) (by decide +kernel)) dX1_power_22 ?_
        refine kt_l (v := lN 2) (rfl) ?_
        refine lv_lrem hx hb dX1_power_25 (by decide) ?_
        refine kt_l (v := lN (q % 2)) (pk_lRem (by omega) (by omega) (by omega)) ?_
        refine lv_lconst (v := lN 1) hx hb dX1_power_26 (by decide) ?_
        refine W.lcmp hx hb dX1_power_27 ?_
        refine lv_if_ne (tgt := 42) hx hb dX1_power_28 (by decide) (fun hc2 => ?_) (fun hc2 => ?_)
        · have he : q % 2 = 0 := by
            rcases Nat.mod_two_eq_zero_or_one q with z | z
            · exact z
            · exact absurd ((lg_cmp_eq _ _).mpr (by rw [z])) hc2
          refine tail r hrP ?_ hq0 ls (lv_sub hl [0, 1, 2, 3, 4, 5] rfl)
          rw [← hinv]
          exact (z_even he).symm
        · have he : q % 2 = 1 := (pk_lEQ (by omega) (by omega)).mp ((lg_cmp_eq _ _).mp hc2)
          refine lv_lload hx hb dX1_power_31 (lv_at hl 3 rfl) ?_
          refine lv_lload hx hb dX1_power_33 (lv_at hl 4 rfl) ?_
          refine lv_lmul hx hb dX1_power_35 ?_
          refine lv_iload hx hb dX1_power_36 (lv_at hl 2 rfl) ?_
          refine lv_i2l (v := lN P) hx hb dX1_power_38 (nI_l (by omega)) ?_
          refine lv_lrem hx hb dX1_power_39 (zl_ne (by omega) (by omega)) ?_
          refine kt_l (v := lN (r * b % P)) (z_pr hP hrP hbP) ?_
          refine lv_lstore (lv' := [(5, .long (lN (r * b % P))), (0, .long (lN av)), (2, .long (lN E)), (4, .int (nI P)), (7, .long (lN b)), (9, .long (lN q))]) hx hb dX1_power_40 hl (by decide) rfl (fun ls hl => ?_)
          refine tail (r * b % P) (Nat.mod_lt _ (by omega)) ?_ hq0 ls (lv_sub hl [1, 2, 3, 0, 4, 5] rfl)
          rw [← hinv]
          exact (z_odd he).symm
  exact loop (E + 1) 1 (av % P) E (by omega) hE (by omega) (Nat.mod_lt _ (by omega)) (by rw [Nat.one_mul, ← Nat.pow_mod]) ls (lv_sub hl [3, 4, 5, 2, 1, 0] rfl)
set_option maxHeartbeats 4000000 in
set_option maxRecDepth 100000 in
theorem k_rootOf (l : Launch) (N P w0 : Nat) (hP : P ≤ 1000000007) (hP3 : 3 ≤ P) (hN1 : 1 ≤ N) (hN : N ≤ 1024) (hW : zW N P w0) : Met l yX1_rootOf wsX1_rootOf ({ frames := 1, cells := 0, slots := 0, locals := 30 }) (va_Pc [.int (nI N), .int (nI P)] (fun _ => True)) (vp_Sl (fun r => r = lN w0)) 0 0 (fun _ => False) := by
  refine k_metS (cc := cX1_rootOf) (maxL := 6) (ret := (some .long)) (by decide +kernel) rfl (Nat.le_of_ble_eq_true rfl) ?_
  intro p e s m below meth c ls hx hb hr hlocks hml hown hts hl
  have hl : lv_has ls 6 [(0, .int (nI N)), (1, .int (nI P))] := hl
  refine lv_iload_n hx hb dX1_rootOf_0 rfl (lv_at hl 0 rfl) ?_
  refine lv_iconst (v := nI 1) hx hb dX1_rootOf_1 (by decide) ?_
  refine lv_icmp_ne (tgt := 7) hx hb dX1_rootOf_2 (by decide) (fun hc => ?_) (fun hc => ?_)
  · have hN2 : 2 ≤ N := by
      rcases Nat.lt_or_ge 1 N with z | z
      · exact z
      · exact absurd (congrArg nI (show N = 1 by omega)) hc
    obtain ⟨z1, -⟩ | ⟨-, h, a1, a2, a3, a4, a5⟩ := hW
    · omega
    refine lv_lconst (v := lN 1) hx hb dX1_rootOf_7 (by decide) ?_
    refine lv_lstore_n (lv' := [(2, .long (lN 1)), (0, .int (nI N)), (1, .int (nI P))]) hx hb dX1_rootOf_8 rfl hl (by decide) rfl (fun ls hl => ?_)
    refine lv_ldc2 hx hb hown (hts (.constantLong RX1 24 (2)) (by decide +kernel)) dX1_rootOf_9 ?_
    refine kt_l (v := lN 2) (rfl) ?_
    refine lv_lstore (lv' := [(4, .long (lN 2)), (2, .long (lN 1)), (0, .int (nI N)), (1, .int (nI P))]) hx hb dX1_rootOf_12 hl (by decide) rfl (fun ls hl => ?_)
    have loop : ∀ (n k u : Nat), h + 2 ≤ k + n → 2 ≤ k → k ≤ h + 1 → ((k = 2 ∧ u = 1) ∨ (3 ≤ k ∧ u = (k - 1) ^ ((P - 1) / N) % P)) → ∀ (ls : Array Slot), lv_has ls 6 [(0, .int (nI N)), (1, .int (nI P)), (2, .long (lN u)), (4, .long (lN k))] → W p l e ({ frames := 1, cells := 0, slots := 0, locals := 30 } : Room) s m ([.int (nI N), .int (nI P)] : List Value).toArray below meth c s.heap [] 0 0 (MQ below (vp_Sl (fun r => r = lN w0)) ([.int (nI N), .int (nI P)] : List Value).toArray s 0 0 (fun _ => False)) (F0 m 14 ls []) := by
      intro n
      induction n with
      | zero => intro k u h1 h2 h3; exact absurd h1 (by omega)
      | succ n ih =>
        intro k u h1 h2 h3 hu ls hl
        have q1 := Nat.div_le_self (P - 1) N
        have q2 := Nat.div_le_self N 2
        have q3 : u < P := by
          rcases hu with ⟨-, z⟩ | ⟨-, z⟩
          · omega
          · rw [z]; exact Nat.mod_lt _ (by omega)
        have q4 := Nat.mod_lt (u ^ (N / 2)) (show 0 < P by omega)
        refine lv_lload_n hx hb dX1_rootOf_14 rfl (lv_at hl 2 rfl) ?_
        refine lv_iload_n hx hb dX1_rootOf_15 rfl (lv_at hl 0 rfl) ?_
        refine lv_iconst (v := nI 2) hx hb dX1_rootOf_16 (by decide) ?_
        refine lv_idiv hx hb dX1_rootOf_17 (by decide) ?_
        refine kt_i (v := nI (N / 2)) (pk_div (by omega) (by omega) (by omega)) ?_
        refine lv_i2l (v := lN (N / 2)) hx hb dX1_rootOf_18 (nI_l (by omega)) ?_
        refine lv_iload_n hx hb dX1_rootOf_19 rfl (lv_at hl 1 rfl) ?_
        refine kc_lv (As := [.long (lN u), .long (lN (N / 2)), .int (nI P)]) (rest := []) ⟨hx, hb, hml, hown, hts⟩ (k_power l u (N / 2) P hP (by omega) (by omega) (by omega)) (va_cwS 3 hts gX1_rootOf_X1_power rfl rfl rfl (by decide +kernel) ⟨Nat.le_of_ble_eq_true rfl, Nat.le_of_ble_eq_true rfl⟩) rfl hl.1 rfl (Nat.le_of_ble_eq_true rfl) dX1_rootOf_20 ⟨Nat.zero_le _, Nat.zero_le _⟩ ?_
        refine lv_iload_n hx hb dX1_rootOf_23 rfl (lv_at hl 1 rfl) ?_
        refine lv_iconst (v := nI 1) hx hb dX1_rootOf_24 (by decide) ?_
        refine lv_isub hx hb dX1_rootOf_25 ?_
        refine kt_i (v := nI (P - 1)) (pk_sub (by omega)) ?_
        refine lv_i2l (v := lN (P - 1)) hx hb dX1_rootOf_26 (nI_l (by omega)) ?_
        refine W.lcmp hx hb dX1_rootOf_27 ?_
        refine lv_if_eq (tgt := 53) hx hb dX1_rootOf_28 (by decide) (fun hc3 => ?_) (fun hc3 => ?_)
        · have hh : u ^ (N / 2) % P = P - 1 := (pk_lEQ (by omega) (by omega)).mp ((lg_cmp_eq _ _).mp hc3)
          have hk : 3 ≤ k ∧ u = (k - 1) ^ ((P - 1) / N) % P := by
            rcases hu with ⟨-, z⟩ | z
            · rw [z, Nat.one_pow, Nat.mod_eq_of_lt (by omega)] at hh; omega
            · exact z
          have hkh : k - 1 = h := by
            rcases Nat.lt_or_ge (k - 1) h with z | z
            · exact absurd (by unfold zhit; rw [← hk.2]; exact hh) (a4 (k - 1) (by omega) z)
            · omega
          refine lv_lload_n hx hb dX1_rootOf_53 rfl (lv_at hl 2 rfl) ?_
          exact kr_Sl hx hb hr hlocks (by rw [a5, hk.2, hkh]) dX1_rootOf_54
        · have hnh : ¬ u ^ (N / 2) % P = P - 1 := fun z => hc3 ((lg_cmp_eq _ _).mpr (congrArg lN z))
          have hkh : k ≠ h + 1 := by
            intro z
            rcases hu with ⟨y, -⟩ | ⟨-, y⟩
            · omega
            · rw [z] at y
              exact hnh (by rw [y]; exact a3)
          refine lv_lload hx hb dX1_rootOf_31 (lv_at hl 3 rfl) ?_
          refine lv_iload_n hx hb dX1_rootOf_33 rfl (lv_at hl 1 rfl) ?_
          refine lv_iconst (v := nI 1) hx hb dX1_rootOf_34 (by decide) ?_
          refine lv_isub hx hb dX1_rootOf_35 ?_
          refine kt_i (v := nI (P - 1)) (pk_sub (by omega)) ?_
          refine lv_iload_n hx hb dX1_rootOf_36 rfl (lv_at hl 0 rfl) ?_
          refine lv_idiv hx hb dX1_rootOf_37 (nI_ne0 (by omega) (by omega)) ?_
          refine kt_i (v := nI ((P - 1) / N)) (pk_div (by omega) (by omega) (by omega)) ?_
          refine lv_i2l (v := lN ((P - 1) / N)) hx hb dX1_rootOf_38 (nI_l (by omega)) ?_
          refine lv_iload_n hx hb dX1_rootOf_39 rfl (lv_at hl 1 rfl) ?_
          refine kc_lv (As := [.long (lN k), .long (lN ((P - 1) / N)), .int (nI P)]) (rest := []) ⟨hx, hb, hml, hown, hts⟩ (k_power l k ((P - 1) / N) P hP (by omega) (by omega) (by omega)) (va_cwS 3 hts gX1_rootOf_X1_power rfl rfl rfl (by decide +kernel) ⟨Nat.le_of_ble_eq_true rfl, Nat.le_of_ble_eq_true rfl⟩) rfl hl.1 rfl (Nat.le_of_ble_eq_true rfl) dX1_rootOf_40 ⟨Nat.zero_le _, Nat.zero_le _⟩ ?_
          refine lv_lstore_n (lv' := [(2, .long (lN (k ^ ((P - 1) / N) % P))), (0, .int (nI N)), (1, .int (nI P)), (4, .long (lN k))]) hx hb dX1_rootOf_43 rfl hl (by decide) rfl (fun ls hl => ?_)
          refine lv_lload hx hb dX1_rootOf_44 (lv_at hl 3 rfl) ?_
          refine lv_lconst (v := lN 1) hx hb dX1_rootOf_46 (by decide) ?_
          refine lv_ladd hx hb dX1_rootOf_47 ?_
          refine kt_l (v := lN (k + 1)) (lN_add k 1) ?_
          refine lv_lstore (lv' := [(4, .long (lN (k + 1))), (2, .long (lN (k ^ ((P - 1) / N) % P))), (0, .int (nI N)), (1, .int (nI P))]) hx hb dX1_rootOf_48 hl (by decide) rfl (fun ls hl => ?_)
          refine lv_goto (tgt := 14) hx hb dX1_rootOf_50 (by decide) ?_
          exact ih (k + 1) _ (by omega) (by omega) (by omega) (Or.inr ⟨by omega, rfl⟩) ls (lv_sub hl [2, 3, 1, 0] rfl)
    exact loop (h + 2) 2 1 (by omega) (by omega) (by omega) (Or.inl ⟨rfl, rfl⟩) ls (lv_sub hl [2, 3, 1, 0] rfl)
  · have hN1 : N = 1 := (nI_eq (by omega) (by omega)).mp hc
    obtain ⟨-, z1⟩ | ⟨z1, -⟩ := hW
    · refine lv_lconst (v := lN 1) hx hb dX1_rootOf_5 (by decide) ?_
      exact kr_Sl hx hb hr hlocks (by rw [z1]) dX1_rootOf_6
    · omega
set_option maxHeartbeats 4000000 in
set_option maxRecDepth 100000 in
theorem k_refused (l : Launch) (q1 q2 : Int32) : Met l yX1_refused wsX1_refused ({ frames := 1, cells := 0, slots := 0, locals := 21 }) (va_Pc [.int q1, .int q2] (fun _ => True)) (vp_Si (fun r => zrf q1 q2 r)) 0 0 (fun _ => False) := by
  refine k_metS (cc := cX1_refused) (maxL := 2) (ret := (some .int)) (by decide +kernel) rfl (Nat.le_of_ble_eq_true rfl) ?_
  intro p e s m below meth c ls hx hb hr hlocks hml hown hts hl
  have hl : lv_has ls 2 [(0, .int q1), (1, .int q2)] := hl
  refine lv_iload_n hx hb dX1_refused_0 rfl (lv_at hl 0 rfl) ?_
  refine lv_iconst (v := (1 : Int32)) hx hb dX1_refused_1 (by decide) ?_
  refine lv_icmp_lt (tgt := 20) hx hb dX1_refused_2 (by decide) (fun hc => ?_) (fun hc => ?_)
  · refine lv_iconst (v := -1) hx hb dX1_refused_20 (by decide) ?_
    exact kr_Si hx hb hr hlocks (Or.inl ⟨rfl, zsz_lo hc⟩) dX1_refused_21
  · refine lv_iload_n hx hb dX1_refused_5 rfl (lv_at hl 0 rfl) ?_
    refine lv_sipush (v := (1024 : Int32)) hx hb dX1_refused_6 (by decide) ?_
    refine lv_icmp_gt (tgt := 20) hx hb dX1_refused_9 (by decide) (fun hc2 => ?_) (fun hc2 => ?_)
    · refine lv_iconst (v := -1) hx hb dX1_refused_20 (by decide) ?_
      exact kr_Si hx hb hr hlocks (Or.inl ⟨rfl, zsz_hi hc2⟩) dX1_refused_21
    · obtain ⟨j, rfl, j1, j2⟩ := zi_of 1 1024 (by decide) (by decide) hc hc2
      refine lv_iload_n hx hb dX1_refused_12 rfl (lv_at hl 0 rfl) ?_
      refine lv_iload_n hx hb dX1_refused_13 rfl (lv_at hl 0 rfl) ?_
      refine lv_iconst (v := (1 : Int32)) hx hb dX1_refused_14 (by decide) ?_
      refine lv_isub hx hb dX1_refused_15 ?_
      refine lv_iand hx hb dX1_refused_16 ?_
      refine lv_if_eq (tgt := 22) hx hb dX1_refused_17 (by decide) (fun hc3 => ?_) (fun hc3 => ?_)
      · have hs : zsz (nI j) := (z_and j1 j2).mp hc3
        refine lv_iload_n hx hb dX1_refused_22 rfl (lv_at hl 1 rfl) ?_
        refine kc_i (As := [.int q2]) (rest := []) ⟨hx, hb, hml, hown, hts⟩ (k_isPrime l q2) (va_cwS 1 hts gX1_refused_X1_isPrime rfl rfl rfl (by decide +kernel) ⟨Nat.le_of_ble_eq_true rfl, Nat.le_of_ble_eq_true rfl⟩) rfl hl.1 rfl (Nat.le_of_ble_eq_true rfl) dX1_refused_23 ⟨Nat.zero_le _, Nat.zero_le _⟩ (fun r2 hr2 => ?_)
        rcases hr2 with ⟨rfl, hp⟩ | ⟨rfl, hp⟩
        · refine lv_if_ne (tgt := 32) hx hb dX1_refused_26 (by decide) (fun _ => ?_) (fun hc => absurd hc (by decide))
          obtain ⟨L, hL, hj⟩ := hs
          have h2p := z_2pow hL
          have hj : j = 2 ^ L := (nI_eq (by omega) (by omega)).mp hj
          subst hj
          obtain ⟨P, rfl, hp1, hp2, hp3⟩ := hp
          refine lv_iload_n hx hb dX1_refused_32 rfl (lv_at hl 1 rfl) ?_
          refine lv_iconst (v := nI 1) hx hb dX1_refused_33 (by decide) ?_
          refine lv_isub hx hb dX1_refused_34 ?_
          refine kt_i (v := nI (P - 1)) (pk_sub (by omega)) ?_
          refine lv_iload_n hx hb dX1_refused_35 rfl (lv_at hl 0 rfl) ?_
          refine lv_irem hx hb dX1_refused_36 (nI_ne0 (by omega) (by omega)) ?_
          refine kt_i (v := nI ((P - 1) % 2 ^ L)) (pk_rem (by omega) (by omega) (by omega)) ?_
          refine lv_if_eq (tgt := 45) hx hb dX1_refused_37 (by decide) (fun hc4 => ?_) (fun hc4 => ?_)
          · have hd0 : (P - 1) % 2 ^ L = 0 := (nI_eq (by have := Nat.mod_lt (P - 1) (show 0 < 2 ^ L by omega); omega) (by omega)).mp (hc4.trans nI_0.symm)
            refine lv_iconst (v := (0 : Int32)) hx hb dX1_refused_45 (by decide) ?_
            exact kr_Si hx hb hr hlocks (Or.inr (Or.inr (Or.inr ⟨rfl, L, P, ⟨hL, rfl, rfl, hp1, hp2, hp3⟩, Nat.dvd_of_mod_eq_zero hd0⟩))) dX1_refused_46
          · have hnd : ¬ 2 ^ L ∣ P - 1 := fun z => hc4 (by rw [Nat.mod_eq_zero_of_dvd z]; rfl)
            refine lv_bipush (v := -3) hx hb dX1_refused_40 (by decide) ?_
            refine lv_goto (tgt := 46) hx hb dX1_refused_42 (by decide) ?_
            exact kr_Si hx hb hr hlocks (Or.inr (Or.inr (Or.inl ⟨rfl, L, P, ⟨hL, rfl, rfl, hp1, hp2, hp3⟩, hnd⟩))) dX1_refused_46
        · refine lv_if_ne (tgt := 32) hx hb dX1_refused_26 (by decide) (fun hc => absurd rfl hc) (fun _ => ?_)
          refine lv_bipush (v := -2) hx hb dX1_refused_29 (by decide) ?_
          exact kr_Si hx hb hr hlocks (Or.inr (Or.inl ⟨rfl, hs, hp⟩)) dX1_refused_31
      · refine lv_iconst (v := -1) hx hb dX1_refused_20 (by decide) ?_
        exact kr_Si hx hb hr hlocks (Or.inl ⟨rfl, fun z => hc3 ((z_and j1 j2).mpr z)⟩) dX1_refused_21
