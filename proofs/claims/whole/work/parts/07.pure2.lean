/-! the static methods, on -/
set_option maxHeartbeats 4000000 in
set_option maxRecDepth 100000 in
theorem m_isPlace (l : Launch) (q : Int32) : Met l yX0_isPlace wsX0_isPlace ({ frames := 0, cells := 0, slots := 0, locals := 0 }) (va_Pc [.int q] (fun _ => True)) (vp_Si (fun r => (r = 1 ∧ ∃ j, j < 1024 ∧ q = nI j) ∨ (r = 0 ∧ ¬ ∃ j, j < 1024 ∧ q = nI j))) 0 0 (fun _ => False) := by
  refine k_metS (cc := cX0_isPlace) (maxL := 1) (ret := (some .boolean)) (by decide +kernel) rfl (Nat.le_of_ble_eq_true rfl) ?_
  intro p e s m below meth c ls hx hb hr hlocks hml hown hts hl
  have hl : lv_has ls 1 [(0, .int q)] := hl
  refine lv_iload_n hx hb dX0_isPlace_0 rfl (lv_at hl 0 rfl) ?_
  refine lv_if_lt (tgt := 15) hx hb dX0_isPlace_1 (by decide) (fun hc => ?_) (fun hc => ?_)
  · refine lv_iconst (v := (0 : Int32)) hx hb dX0_isPlace_15 (by decide) ?_
    refine kr_Sz hx hb hr rfl hlocks (Or.inr ⟨rfl, ?_⟩) dX0_isPlace_16
    intro ⟨j, hj, e⟩
    subst e
    exact nI_pos (by omega) hc
  · refine lv_iload_n hx hb dX0_isPlace_4 rfl (lv_at hl 0 rfl) ?_
    refine lv_sipush (v := nI 1024) hx hb dX0_isPlace_5 (by decide) ?_
    refine lv_icmp_ge (tgt := 15) hx hb dX0_isPlace_8 (by decide) (fun hc2 => ?_) (fun hc2 => ?_)
    · refine lv_iconst (v := (0 : Int32)) hx hb dX0_isPlace_15 (by decide) ?_
      refine kr_Sz hx hb hr rfl hlocks (Or.inr ⟨rfl, ?_⟩) dX0_isPlace_16
      intro ⟨j, hj, e⟩
      subst e
      exact absurd ((nI_leI (by omega) (by omega)).mp hc2) (by omega)
    · refine lv_iconst (v := (1 : Int32)) hx hb dX0_isPlace_11 (by decide) ?_
      refine lv_goto (tgt := 16) hx hb dX0_isPlace_12 (by decide) ?_
      obtain ⟨j, hj, rfl⟩ := nI_of hc
      refine kr_Sz hx hb hr rfl hlocks (Or.inl ⟨rfl, j, ?_, rfl⟩) dX0_isPlace_16
      exact Nat.not_le.mp fun z => hc2 ((nI_leI (by omega) (by omega)).mpr z)
set_option maxHeartbeats 4000000 in
set_option maxRecDepth 100000 in
theorem m_isCount (l : Launch) (q : Int32) : Met l yX0_isCount wsX0_isCount ({ frames := 0, cells := 0, slots := 0, locals := 0 }) (va_Pc [.int q] (fun _ => True)) (vp_Si (fun r => (r = 1 ∧ ∃ j, j ≤ 1024 ∧ q = nI j) ∨ (r = 0 ∧ ¬ ∃ j, j ≤ 1024 ∧ q = nI j))) 0 0 (fun _ => False) := by
  refine k_metS (cc := cX0_isCount) (maxL := 1) (ret := (some .boolean)) (by decide +kernel) rfl (Nat.le_of_ble_eq_true rfl) ?_
  intro p e s m below meth c ls hx hb hr hlocks hml hown hts hl
  have hl : lv_has ls 1 [(0, .int q)] := hl
  refine lv_iload_n hx hb dX0_isCount_0 rfl (lv_at hl 0 rfl) ?_
  refine lv_if_lt (tgt := 15) hx hb dX0_isCount_1 (by decide) (fun hc => ?_) (fun hc => ?_)
  · refine lv_iconst (v := (0 : Int32)) hx hb dX0_isCount_15 (by decide) ?_
    refine kr_Sz hx hb hr rfl hlocks (Or.inr ⟨rfl, ?_⟩) dX0_isCount_16
    intro ⟨j, hj, e⟩
    subst e
    exact nI_pos (by omega) hc
  · refine lv_iload_n hx hb dX0_isCount_4 rfl (lv_at hl 0 rfl) ?_
    refine lv_sipush (v := nI 1024) hx hb dX0_isCount_5 (by decide) ?_
    refine lv_icmp_gt (tgt := 15) hx hb dX0_isCount_8 (by decide) (fun hc2 => ?_) (fun hc2 => ?_)
    · refine lv_iconst (v := (0 : Int32)) hx hb dX0_isCount_15 (by decide) ?_
      refine kr_Sz hx hb hr rfl hlocks (Or.inr ⟨rfl, ?_⟩) dX0_isCount_16
      intro ⟨j, hj, e⟩
      subst e
      exact absurd ((nI_ltI (by omega) (by omega)).mp hc2) (by omega)
    · refine lv_iconst (v := (1 : Int32)) hx hb dX0_isCount_11 (by decide) ?_
      refine lv_goto (tgt := 16) hx hb dX0_isCount_12 (by decide) ?_
      obtain ⟨j, hj, rfl⟩ := nI_of hc
      refine kr_Sz hx hb hr rfl hlocks (Or.inl ⟨rfl, j, ?_, rfl⟩) dX0_isCount_16
      exact Nat.not_lt.mp fun z => hc2 ((nI_ltI (by omega) (by omega)).mpr z)
set_option maxHeartbeats 4000000 in
set_option maxRecDepth 100000 in
theorem m_isSize (l : Launch) (q : Int32) : Met l yX0_isSize wsX0_isSize ({ frames := 0, cells := 0, slots := 0, locals := 0 }) (va_Pc [.int q] (fun _ => True)) (vp_Si (fun r => (r = 1 ∧ zsz q) ∨ (r = 0 ∧ ¬ zsz q))) 0 0 (fun _ => False) := by
  refine k_metS (cc := cX0_isSize) (maxL := 1) (ret := (some .boolean)) (by decide +kernel) rfl (Nat.le_of_ble_eq_true rfl) ?_
  intro p e s m below meth c ls hx hb hr hlocks hml hown hts hl
  have hl : lv_has ls 1 [(0, .int q)] := hl
  refine lv_iload_n hx hb dX0_isSize_0 rfl (lv_at hl 0 rfl) ?_
  refine lv_iconst (v := (1 : Int32)) hx hb dX0_isSize_1 (by decide) ?_
  refine lv_icmp_lt (tgt := 24) hx hb dX0_isSize_2 (by decide) (fun hc => ?_) (fun hc => ?_)
  · refine lv_iconst (v := (0 : Int32)) hx hb dX0_isSize_24 (by decide) ?_
    exact kr_Sz hx hb hr rfl hlocks (Or.inr ⟨rfl, zsz_lo hc⟩) dX0_isSize_25
  · refine lv_iload_n hx hb dX0_isSize_5 rfl (lv_at hl 0 rfl) ?_
    refine lv_sipush (v := (1024 : Int32)) hx hb dX0_isSize_6 (by decide) ?_
    refine lv_icmp_gt (tgt := 24) hx hb dX0_isSize_9 (by decide) (fun hc2 => ?_) (fun hc2 => ?_)
    · refine lv_iconst (v := (0 : Int32)) hx hb dX0_isSize_24 (by decide) ?_
      exact kr_Sz hx hb hr rfl hlocks (Or.inr ⟨rfl, zsz_hi hc2⟩) dX0_isSize_25
    · obtain ⟨j, rfl, j1, j2⟩ := zi_of 1 1024 (by decide) (by decide) hc hc2
      refine lv_iload_n hx hb dX0_isSize_12 rfl (lv_at hl 0 rfl) ?_
      refine lv_iload_n hx hb dX0_isSize_13 rfl (lv_at hl 0 rfl) ?_
      refine lv_iconst (v := (1 : Int32)) hx hb dX0_isSize_14 (by decide) ?_
      refine lv_isub hx hb dX0_isSize_15 ?_
      refine lv_iand hx hb dX0_isSize_16 ?_
      refine lv_if_ne (tgt := 24) hx hb dX0_isSize_17 (by decide) (fun hc3 => ?_) (fun hc3 => ?_)
      · refine lv_iconst (v := (0 : Int32)) hx hb dX0_isSize_24 (by decide) ?_
        exact kr_Sz hx hb hr rfl hlocks (Or.inr ⟨rfl, fun z => hc3 ((z_and j1 j2).mpr z)⟩) dX0_isSize_25
      · refine lv_iconst (v := (1 : Int32)) hx hb dX0_isSize_20 (by decide) ?_
        refine lv_goto (tgt := 25) hx hb dX0_isSize_21 (by decide) ?_
        exact kr_Sz hx hb hr rfl hlocks (Or.inl ⟨rfl, (z_and j1 j2).mp hc3⟩) dX0_isSize_25
set_option maxHeartbeats 4000000 in
set_option maxRecDepth 100000 in
theorem m_isUsablePrime (l : Launch) (q : Int32) : Met l yX0_isUsablePrime wsX0_isUsablePrime ({ frames := 0, cells := 0, slots := 0, locals := 0 }) (va_Pc [.int q] (fun _ => True)) (vp_Si (fun r => (r = 1 ∧ zok q) ∨ (r = 0 ∧ ¬ zok q))) 0 0 (fun _ => False) := by
  refine k_metS (cc := cX0_isUsablePrime) (maxL := 2) (ret := (some .boolean)) (by decide +kernel) rfl (Nat.le_of_ble_eq_true rfl) ?_
  intro p e s m below meth c ls hx hb hr hlocks hml hown hts hl
  have hl : lv_has ls 2 [(0, .int q)] := hl
  refine lv_iload_n hx hb dX0_isUsablePrime_0 rfl (lv_at hl 0 rfl) ?_
  refine lv_iconst (v := (3 : Int32)) hx hb dX0_isUsablePrime_1 (by decide) ?_
  refine lv_icmp_lt (tgt := 17) hx hb dX0_isUsablePrime_2 (by decide) (fun hc => ?_) (fun hc => ?_)
  · refine lv_iconst (v := (0 : Int32)) hx hb dX0_isUsablePrime_17 (by decide) ?_
    exact kr_Sz hx hb hr rfl hlocks (Or.inr ⟨rfl, zok_lo hc⟩) dX0_isUsablePrime_18
  · refine lv_iload_n hx hb dX0_isUsablePrime_5 rfl (lv_at hl 0 rfl) ?_
    refine lv_ldc hx hb hown (hts (.constant RX0 62 (1000000007)) (by decide +kernel)) dX0_isUsablePrime_6 ?_
    refine lv_icmp_gt (tgt := 17) hx hb dX0_isUsablePrime_8 (by decide) (fun hc2 => ?_) (fun hc2 => ?_)
    · refine lv_iconst (v := (0 : Int32)) hx hb dX0_isUsablePrime_17 (by decide) ?_
      exact kr_Sz hx hb hr rfl hlocks (Or.inr ⟨rfl, zok_hi hc2⟩) dX0_isUsablePrime_18
    · obtain ⟨P, rfl, j1, j2⟩ := zi_of 3 1000000007 (by decide) (by decide) hc hc2
      have hkey := zok_nI (P := P) (by omega)
      refine lv_iload_n hx hb dX0_isUsablePrime_11 rfl (lv_at hl 0 rfl) ?_
      refine lv_iconst (v := nI 2) hx hb dX0_isUsablePrime_12 (by decide) ?_
      refine lv_irem hx hb dX0_isUsablePrime_13 (by decide) ?_
      refine kt_i (v := nI (P % 2)) (pk_rem (by omega) (by omega) (by omega)) ?_
      refine lv_if_ne (tgt := 19) hx hb dX0_isUsablePrime_14 (by decide) (fun hc3 => ?_) (fun hc3 => ?_)
      · have hodd : P % 2 = 1 := by
          rcases Nat.mod_two_eq_zero_or_one P with z | z
          · exact absurd (by rw [z]; rfl) hc3
          · exact z
        refine lv_iconst (v := nI 3) hx hb dX0_isUsablePrime_19 (by decide) ?_
        refine lv_istore_n (lv' := [(1, .int (nI 3)), (0, .int (nI P))]) hx hb dX0_isUsablePrime_20 rfl hl (by decide) rfl (fun ls hl => ?_)
        have loop : ∀ (n d : Nat), 31626 ≤ d + n → 3 ≤ d → d ≤ 31625 → d % 2 = 1 → (∀ z, 3 ≤ z → z % 2 = 1 → z < d → ¬ z ∣ P) → ∀ (ls : Array Slot), lv_has ls 2 [(0, .int (nI P)), (1, .int (nI d))] → W p l e ({ frames := 0, cells := 0, slots := 0, locals := 0 } : Room) s m ([.int (nI P)] : List Value).toArray below meth c s.heap [] 0 0 (MQ below (vp_Si (fun r => (r = 1 ∧ zok (nI P)) ∨ (r = 0 ∧ ¬ zok (nI P)))) ([.int (nI P)] : List Value).toArray s 0 0 (fun _ => False)) (F0 m 21 ls []) := by
          intro n
          induction n with
          | zero => intro d h1 h2 h3; exact absurd h1 (by omega)
          | succ n ih =>
            intro d h1 h2 h3 h4 h5 ls hl
            have hdd : d * d ≤ 31625 * 31625 := Nat.mul_le_mul h3 h3
            refine lv_iload_n hx hb dX0_isUsablePrime_21 rfl (lv_at hl 1 rfl) ?_
            refine lv_iload_n hx hb dX0_isUsablePrime_22 rfl (lv_at hl 1 rfl) ?_
            refine lv_imul hx hb dX0_isUsablePrime_23 ?_
            refine kt_i (v := nI (d * d)) (pk_mul d d) ?_
            refine lv_iload_n hx hb dX0_isUsablePrime_24 rfl (lv_at hl 0 rfl) ?_
            refine lv_icmp_gt (tgt := 42) hx hb dX0_isUsablePrime_25 (by decide) (fun hc4 => ?_) (fun hc4 => ?_)
            · have hlt : P < d * d := (nI_ltI (by omega) (by omega)).mp hc4
              refine lv_iconst (v := (1 : Int32)) hx hb dX0_isUsablePrime_42 (by decide) ?_
              exact kr_Sz hx hb hr rfl hlocks (Or.inl ⟨rfl, hkey.mpr ⟨j1, j2, z_td_odd hodd h5 hlt⟩⟩) dX0_isUsablePrime_43
            · have hle : d * d ≤ P := Nat.not_lt.mp fun z => hc4 ((nI_ltI (by omega) (by omega)).mpr z)
              have hd5 : d ≤ 31622 := z_sq (by omega)
              refine lv_iload_n hx hb dX0_isUsablePrime_28 rfl (lv_at hl 0 rfl) ?_
              refine lv_iload_n hx hb dX0_isUsablePrime_29 rfl (lv_at hl 1 rfl) ?_
              refine lv_irem hx hb dX0_isUsablePrime_30 (nI_ne0 (by omega) (by omega)) ?_
              refine kt_i (v := nI (P % d)) (pk_rem (by omega) (by omega) (by omega)) ?_
              refine lv_if_ne (tgt := 36) hx hb dX0_isUsablePrime_31 (by decide) (fun hc5 => ?_) (fun hc5 => ?_)
              · have hnd : ¬ d ∣ P := by
                  intro z
                  exact hc5 (by rw [Nat.mod_eq_zero_of_dvd z]; rfl)
                refine lv_iinc (v := nI (d + 2)) (lv' := [(1, .int (nI (d + 2))), (0, .int (nI P))]) hx hb dX0_isUsablePrime_36 hl (k := 1) rfl (nI_add d 2) (by decide) rfl (fun ls hl => ?_)
                refine lv_goto (tgt := 21) hx hb dX0_isUsablePrime_39 (by decide) ?_
                refine ih (d + 2) (by omega) (by omega) (by omega) (by omega) (fun z z1 z2 z3 => ?_) ls (lv_sub hl [1, 0] rfl)
                rcases Nat.lt_or_ge z d with y | y
                · exact h5 z z1 z2 y
                · have : z = d := by omega
                  rw [this]; exact hnd
              · have hd0 : P % d = 0 := (nI_eq (by have := Nat.mod_lt P (show 0 < d by omega); omega) (by omega)).mp (hc5.trans nI_0.symm)
                refine lv_iconst (v := (0 : Int32)) hx hb dX0_isUsablePrime_34 (by decide) ?_
                refine kr_Sz hx hb hr rfl hlocks (Or.inr ⟨rfl, fun z => ?_⟩) dX0_isUsablePrime_35
                exact (hkey.mp z).2.2 d (by omega) hle (Nat.dvd_of_mod_eq_zero hd0)
        exact loop 31625 3 (by omega) (by omega) (by omega) (by omega) (fun z z1 z2 z3 => absurd z3 (by omega)) ls (lv_sub hl [1, 0] rfl)
      · have hev : P % 2 = 0 := (nI_eq (by omega) (by omega)).mp (hc3.trans nI_0.symm)
        refine lv_iconst (v := (0 : Int32)) hx hb dX0_isUsablePrime_17 (by decide) ?_
        refine kr_Sz hx hb hr rfl hlocks (Or.inr ⟨rfl, fun z => ?_⟩) dX0_isUsablePrime_18
        exact (hkey.mp z).2.2 2 (by omega) (by omega) (Nat.dvd_of_mod_eq_zero hev)
set_option maxHeartbeats 4000000 in
set_option maxRecDepth 100000 in
theorem m_refusalOf (l : Launch) (q1 q2 : Int32) : Met l yX0_refusalOf wsX0_refusalOf ({ frames := 1, cells := 0, slots := 0, locals := 21 }) (va_Pc [.int q1, .int q2] (fun _ => True)) (vp_Si (fun r => zrf q1 q2 r)) 0 0 (fun _ => False) := by
  refine k_metS (cc := cX0_refusalOf) (maxL := 2) (ret := (some .int)) (by decide +kernel) rfl (Nat.le_of_ble_eq_true rfl) ?_
  intro p e s m below meth c ls hx hb hr hlocks hml hown hts hl
  have hl : lv_has ls 2 [(0, .int q1), (1, .int q2)] := hl
  refine lv_iload_n hx hb dX0_refusalOf_0 rfl (lv_at hl 0 rfl) ?_
  refine kc_i (As := [.int q1]) (rest := []) ⟨hx, hb, hml, hown, hts⟩ (m_isSize l q1) (va_cwS 1 hts gX0_refusalOf_X0_isSize rfl rfl rfl (by decide +kernel) ⟨Nat.le_of_ble_eq_true rfl, Nat.le_of_ble_eq_true rfl⟩) rfl hl.1 rfl (Nat.le_of_ble_eq_true rfl) dX0_refusalOf_1 ⟨Nat.zero_le _, Nat.zero_le _⟩ (fun r1 hr1 => ?_)
  rcases hr1 with ⟨rfl, hs⟩ | ⟨rfl, hs⟩
  · refine lv_if_ne (tgt := 9) hx hb dX0_refusalOf_4 (by decide) (fun _ => ?_) (fun hc => absurd hc (by decide))
    refine lv_iload_n hx hb dX0_refusalOf_9 rfl (lv_at hl 1 rfl) ?_
    refine kc_i (As := [.int q2]) (rest := []) ⟨hx, hb, hml, hown, hts⟩ (m_isUsablePrime l q2) (va_cwS 1 hts gX0_refusalOf_X0_isUsablePrime rfl rfl rfl (by decide +kernel) ⟨Nat.le_of_ble_eq_true rfl, Nat.le_of_ble_eq_true rfl⟩) rfl hl.1 rfl (Nat.le_of_ble_eq_true rfl) dX0_refusalOf_10 ⟨Nat.zero_le _, Nat.zero_le _⟩ (fun r2 hr2 => ?_)
    rcases hr2 with ⟨rfl, hp⟩ | ⟨rfl, hp⟩
    · refine lv_if_ne (tgt := 19) hx hb dX0_refusalOf_13 (by decide) (fun _ => ?_) (fun hc => absurd hc (by decide))
      obtain ⟨L, hL, rfl⟩ := hs
      obtain ⟨P, rfl, hp1, hp2, hp3⟩ := hp
      have h2p := z_2pow hL
      refine lv_iload_n hx hb dX0_refusalOf_19 rfl (lv_at hl 1 rfl) ?_
      refine lv_iconst (v := nI 1) hx hb dX0_refusalOf_20 (by decide) ?_
      refine lv_isub hx hb dX0_refusalOf_21 ?_
      refine kt_i (v := nI (P - 1)) (pk_sub (by omega)) ?_
      refine lv_iload_n hx hb dX0_refusalOf_22 rfl (lv_at hl 0 rfl) ?_
      refine lv_irem hx hb dX0_refusalOf_23 (nI_ne0 (by omega) (by omega)) ?_
      refine kt_i (v := nI ((P - 1) % 2 ^ L)) (pk_rem (by omega) (by omega) (by omega)) ?_
      refine lv_if_ne (tgt := 31) hx hb dX0_refusalOf_24 (by decide) (fun hc => ?_) (fun hc => ?_)
      · have hnd : ¬ 2 ^ L ∣ P - 1 := fun z => hc (by rw [Nat.mod_eq_zero_of_dvd z]; rfl)
        refine lv_bipush (v := -3) hx hb dX0_refusalOf_31 (by decide) ?_
        exact kr_Si hx hb hr hlocks (Or.inr (Or.inr (Or.inl ⟨rfl, L, P, ⟨hL, rfl, rfl, hp1, hp2, hp3⟩, hnd⟩))) dX0_refusalOf_33
      · have hd0 : (P - 1) % 2 ^ L = 0 := (nI_eq (by have := Nat.mod_lt (P - 1) (show 0 < 2 ^ L by omega); omega) (by omega)).mp (hc.trans nI_0.symm)
        refine lv_iconst (v := (0 : Int32)) hx hb dX0_refusalOf_27 (by decide) ?_
        refine lv_goto (tgt := 33) hx hb dX0_refusalOf_28 (by decide) ?_
        exact kr_Si hx hb hr hlocks (Or.inr (Or.inr (Or.inr ⟨rfl, L, P, ⟨hL, rfl, rfl, hp1, hp2, hp3⟩, Nat.dvd_of_mod_eq_zero hd0⟩))) dX0_refusalOf_33
    · refine lv_if_ne (tgt := 19) hx hb dX0_refusalOf_13 (by decide) (fun hc => absurd rfl hc) (fun _ => ?_)
      refine lv_bipush (v := -2) hx hb dX0_refusalOf_16 (by decide) ?_
      exact kr_Si hx hb hr hlocks (Or.inr (Or.inl ⟨rfl, hs, hp⟩)) dX0_refusalOf_18
  · refine lv_if_ne (tgt := 9) hx hb dX0_refusalOf_4 (by decide) (fun hc => absurd rfl hc) (fun _ => ?_)
    refine lv_iconst (v := -1) hx hb dX0_refusalOf_7 (by decide) ?_
    exact kr_Si hx hb hr hlocks (Or.inl ⟨rfl, hs⟩) dX0_refusalOf_8
set_option maxHeartbeats 4000000 in
set_option maxRecDepth 100000 in
theorem m_mirrored (l : Launch) (k L : Nat) (hL : L ≤ 10) (hk : k < 2 ^ L) (hkk : k < 1024) : Met l yX0_mirrored wsX0_mirrored ({ frames := 0, cells := 0, slots := 0, locals := 0 }) (va_Pc [.int (nI k), .int (nI (2 ^ L))] (fun _ => True)) (vp_Si (fun r => r = nI (zr L k))) 0 0 (fun _ => False) := by
  refine k_metS (cc := cX0_mirrored) (maxL := 5) (ret := (some .int)) (by decide +kernel) rfl (Nat.le_of_ble_eq_true rfl) ?_
  intro p e s m below meth c ls hx hb hr hlocks hml hown hts hl
  have hl : lv_has ls 5 [(0, .int (nI k)), (1, .int (nI (2 ^ L)))] := hl
  refine lv_iconst (v := nI 0) hx hb dX0_mirrored_0 (by decide) ?_
  refine lv_istore_n (lv' := [(2, .int (nI 0)), (0, .int (nI k)), (1, .int (nI (2 ^ L)))]) hx hb dX0_mirrored_1 rfl hl (by decide) rfl (fun ls hl => ?_)
  refine lv_iload_n hx hb dX0_mirrored_2 rfl (lv_at hl 1 rfl) ?_
  refine lv_istore_n (lv' := [(3, .int (nI k)), (2, .int (nI 0)), (0, .int (nI k)), (1, .int (nI (2 ^ L)))]) hx hb dX0_mirrored_3 rfl hl (by decide) rfl (fun ls hl => ?_)
  refine lv_iconst (v := nI 1) hx hb dX0_mirrored_4 (by decide) ?_
  refine lv_istore (lv' := [(4, .int (nI 1)), (3, .int (nI k)), (2, .int (nI 0)), (0, .int (nI k)), (1, .int (nI (2 ^ L)))]) hx hb dX0_mirrored_5 hl (by decide) rfl (fun ls hl => ?_)
  have loop : ∀ (n t : Nat), L + 1 ≤ t + n → t ≤ L → ∀ (ls : Array Slot), lv_has ls 5 [(0, .int (nI k)), (1, .int (nI (2 ^ L))), (2, .int (nI (zr t k))), (3, .int (nI (k / 2 ^ t))), (4, .int (nI (2 ^ t)))] → W p l e ({ frames := 0, cells := 0, slots := 0, locals := 0 } : Room) s m ([.int (nI k), .int (nI (2 ^ L))] : List Value).toArray below meth c s.heap [] 0 0 (MQ below (vp_Si (fun r => r = nI (zr L k))) ([.int (nI k), .int (nI (2 ^ L))] : List Value).toArray s 0 0 (fun _ => False)) (F0 m 7 ls []) := by
    intro n
    induction n with
    | zero => intro t h1 h2; exact absurd h1 (by omega)
    | succ n ih =>
      intro t h1 h2 ls hl
      have t1 := z_2pow (show t ≤ 10 by omega)
      have t0 := z_2pow hL
      have t2 := zr_lt t k
      have t3 := Nat.div_le_self k (2 ^ t)
      refine lv_iload hx hb dX0_mirrored_7 (lv_at hl 4 rfl) ?_
      refine lv_iload_n hx hb dX0_mirrored_9 rfl (lv_at hl 1 rfl) ?_
      refine lv_icmp_ge (tgt := 34) hx hb dX0_mirrored_10 (by decide) (fun hc => ?_) (fun hc => ?_)
      · have hle : 2 ^ L ≤ 2 ^ t := (nI_leI (by omega) (by omega)).mp hc
        have ht : t = L := by
          rcases Nat.lt_or_ge t L with z | z
          · exact absurd (Nat.pow_lt_pow_right (a := 2) (by omega) z) (by omega)
          · omega
        subst ht
        refine lv_iload_n hx hb dX0_mirrored_34 rfl (lv_at hl 2 rfl) ?_
        exact kr_Si hx hb hr hlocks rfl dX0_mirrored_35
      · have hlt : t < L := by
          rcases Nat.lt_or_ge t L with z | z
          · exact z
          · exact absurd ((nI_leI (by omega) (by omega)).mpr (Nat.pow_le_pow_right (by omega) z)) hc
        refine lv_iload_n hx hb dX0_mirrored_13 rfl (lv_at hl 2 rfl) ?_
        refine lv_iconst (v := (1 : Int32)) hx hb dX0_mirrored_14 (by decide) ?_
        refine lv_ishl hx hb dX0_mirrored_15 ?_
        refine kt_i (v := nI (zr t k * 2 ^ 1)) (pk_shlN _ 1 (by decide) (by omega)) ?_
        refine lv_iload_n hx hb dX0_mirrored_16 rfl (lv_at hl 3 rfl) ?_
        refine lv_iconst (v := (1 : Int32)) hx hb dX0_mirrored_17 (by decide) ?_
        refine lv_iand hx hb dX0_mirrored_18 ?_
        refine kt_i (v := nI (k / 2 ^ t % 2)) (pk_andN (by omega) 1 (by decide)) ?_
        refine lv_ior hx hb dX0_mirrored_19 ?_
        refine kt_i (v := nI (zr (t + 1) k)) (z_or (by omega) (by omega)) ?_
        refine lv_istore_n (lv' := [(2, .int (nI (zr (t + 1) k))), (0, .int (nI k)), (1, .int (nI (2 ^ L))), (3, .int (nI (k / 2 ^ t))), (4, .int (nI (2 ^ t)))]) hx hb dX0_mirrored_20 rfl hl (by decide) rfl (fun ls hl => ?_)
        refine lv_iload_n hx hb dX0_mirrored_21 rfl (lv_at hl 3 rfl) ?_
        refine lv_iconst (v := (1 : Int32)) hx hb dX0_mirrored_22 (by decide) ?_
        refine lv_ishr hx hb dX0_mirrored_23 ?_
        refine kt_i (v := nI (k / 2 ^ (t + 1))) ((pk_shrN (by omega) _ 1 (by decide)).trans (by rw [Nat.div_div_eq_div_mul]; rfl)) ?_
        refine lv_istore_n (lv' := [(3, .int (nI (k / 2 ^ (t + 1)))), (2, .int (nI (zr (t + 1) k))), (0, .int (nI k)), (1, .int (nI (2 ^ L))), (4, .int (nI (2 ^ t)))]) hx hb dX0_mirrored_24 rfl hl (by decide) rfl (fun ls hl => ?_)
        refine lv_iload hx hb dX0_mirrored_25 (lv_at hl 4 rfl) ?_
        refine lv_iconst (v := (1 : Int32)) hx hb dX0_mirrored_27 (by decide) ?_
        refine lv_ishl hx hb dX0_mirrored_28 ?_
        refine kt_i (v := nI (2 ^ (t + 1))) ((pk_shlN _ 1 (by decide) (by omega)).trans (by rw [Nat.pow_one, Nat.pow_succ])) ?_
        refine lv_istore (lv' := [(4, .int (nI (2 ^ (t + 1)))), (3, .int (nI (k / 2 ^ (t + 1)))), (2, .int (nI (zr (t + 1) k))), (0, .int (nI k)), (1, .int (nI (2 ^ L)))]) hx hb dX0_mirrored_29 hl (by decide) rfl (fun ls hl => ?_)
        refine lv_goto (tgt := 7) hx hb dX0_mirrored_31 (by decide) ?_
        exact ih (t + 1) (by omega) (by omega) ls (lv_sub hl [3, 4, 2, 1, 0] rfl)
  refine loop (L + 1) 0 (by omega) (by omega) ls ?_
  rw [Nat.pow_zero, Nat.div_one]
  exact (lv_sub hl [3, 4, 2, 1, 0] rfl)
set_option maxHeartbeats 4000000 in
set_option maxRecDepth 100000 in
theorem m_rootOfUnity (l : Launch) (N P w0 : Nat) (hP : P ≤ 1000000007) (hP3 : 3 ≤ P) (hN1 : 1 ≤ N) (hN : N ≤ 1024) (hW : zW N P w0) : Met l yX0_rootOfUnity wsX0_rootOfUnity ({ frames := 2, cells := 0, slots := 0, locals := 54 }) (va_Pc [.int (nI N), .int (nI P)] (fun _ => True)) (vp_Sl (fun r => r = lN w0)) 0 0 (fun _ => False) := by
  refine k_metS (cc := cX0_rootOfUnity) (maxL := 5) (ret := (some .long)) (by decide +kernel) rfl (Nat.le_of_ble_eq_true rfl) ?_
  intro p e s m below meth c ls hx hb hr hlocks hml hown hts hl
  have hl : lv_has ls 5 [(0, .int (nI N)), (1, .int (nI P))] := hl
  refine lv_iload_n hx hb dX0_rootOfUnity_0 rfl (lv_at hl 0 rfl) ?_
  refine lv_iconst (v := nI 1) hx hb dX0_rootOfUnity_1 (by decide) ?_
  refine lv_icmp_gt (tgt := 7) hx hb dX0_rootOfUnity_2 (by decide) (fun hc => ?_) (fun hc => ?_)
  · have hN2 : 2 ≤ N := (nI_ltI (by omega) (by omega)).mp hc
    obtain ⟨z1, -⟩ | ⟨-, h, a1, a2, a3, a4, a5⟩ := hW
    · omega
    refine lv_iconst (v := nI 2) hx hb dX0_rootOfUnity_7 (by decide) ?_
    refine lv_istore_n (lv' := [(2, .int (nI 2)), (0, .int (nI N)), (1, .int (nI P))]) hx hb dX0_rootOfUnity_8 rfl hl (by decide) rfl (fun ls hl => ?_)
    have loop : ∀ (n k : Nat), h + 1 ≤ k + n → 2 ≤ k → k ≤ h → ∀ (ls : Array Slot), lv_has ls 5 [(0, .int (nI N)), (1, .int (nI P)), (2, .int (nI k))] → W p l e ({ frames := 2, cells := 0, slots := 0, locals := 54 } : Room) s m ([.int (nI N), .int (nI P)] : List Value).toArray below meth c s.heap [] 0 0 (MQ below (vp_Sl (fun r => r = lN w0)) ([.int (nI N), .int (nI P)] : List Value).toArray s 0 0 (fun _ => False)) (F0 m 9 ls []) := by
      intro n
      induction n with
      | zero => intro k h1 h2 h3; exact absurd h1 (by omega)
      | succ n ih =>
        intro k h1 h2 h3 ls hl
        have q1 := Nat.div_le_self (P - 1) N
        have q2 := Nat.div_le_self N 2
        have q3 := Nat.mod_lt (k ^ ((P - 1) / N)) (show 0 < P by omega)
        have q4 := Nat.mod_lt ((k ^ ((P - 1) / N) % P) ^ (N / 2)) (show 0 < P by omega)
        refine lv_iload_n hx hb dX0_rootOfUnity_9 rfl (lv_at hl 2 rfl) ?_
        refine lv_iload_n hx hb dX0_rootOfUnity_10 rfl (lv_at hl 1 rfl) ?_
        refine lv_icmp_ge (tgt := 52) hx hb dX0_rootOfUnity_11 (by decide) (fun hc2 => ?_) (fun hc2 => ?_)
        · exact absurd ((nI_leI (by omega) (by omega)).mp hc2) (by omega)
        · refine lv_iload_n hx hb dX0_rootOfUnity_14 rfl (lv_at hl 2 rfl) ?_
          refine lv_i2l (v := lN k) hx hb dX0_rootOfUnity_15 (nI_l (by omega)) ?_
          refine lv_iload_n hx hb dX0_rootOfUnity_16 rfl (lv_at hl 1 rfl) ?_
          refine lv_iconst (v := nI 1) hx hb dX0_rootOfUnity_17 (by decide) ?_
          refine lv_isub hx hb dX0_rootOfUnity_18 ?_
          refine kt_i (v := nI (P - 1)) (pk_sub (by omega)) ?_
          refine lv_iload_n hx hb dX0_rootOfUnity_19 rfl (lv_at hl 0 rfl) ?_
          refine lv_idiv hx hb dX0_rootOfUnity_20 (nI_ne0 (by omega) (by omega)) ?_
          refine kt_i (v := nI ((P - 1) / N)) (pk_div (by omega) (by omega) (by omega)) ?_
          refine lv_iload_n hx hb dX0_rootOfUnity_21 rfl (lv_at hl 1 rfl) ?_
          refine lv_i2l (v := lN P) hx hb dX0_rootOfUnity_22 (nI_l (by omega)) ?_
          refine kc_lv (As := [.long (lN k), .int (nI ((P - 1) / N)), .long (lN P)]) (rest := []) ⟨hx, hb, hml, hown, hts⟩ (m_power l k ((P - 1) / N) P hP (by omega) (by omega) (by omega)) (va_cwS 3 hts gX0_rootOfUnity_X0_power rfl rfl rfl (by decide +kernel) ⟨Nat.le_of_ble_eq_true rfl, Nat.le_of_ble_eq_true rfl⟩) rfl hl.1 rfl (Nat.le_of_ble_eq_true rfl) dX0_rootOfUnity_23 ⟨Nat.zero_le _, Nat.zero_le _⟩ ?_
          refine lv_lstore_n (lv' := [(3, .long (lN (k ^ ((P - 1) / N) % P))), (0, .int (nI N)), (1, .int (nI P)), (2, .int (nI k))]) hx hb dX0_rootOfUnity_26 rfl hl (by decide) rfl (fun ls hl => ?_)
          refine lv_lload_n hx hb dX0_rootOfUnity_27 rfl (lv_at hl 0 rfl) ?_
          refine lv_iload_n hx hb dX0_rootOfUnity_28 rfl (lv_at hl 1 rfl) ?_
          refine lv_iconst (v := nI 2) hx hb dX0_rootOfUnity_29 (by decide) ?_
          refine lv_idiv hx hb dX0_rootOfUnity_30 (by decide) ?_
          refine kt_i (v := nI (N / 2)) (pk_div (by omega) (by omega) (by omega)) ?_
          refine lv_iload_n hx hb dX0_rootOfUnity_31 rfl (lv_at hl 2 rfl) ?_
          refine lv_i2l (v := lN P) hx hb dX0_rootOfUnity_32 (nI_l (by omega)) ?_
          refine kc_lv (As := [.long (lN (k ^ ((P - 1) / N) % P)), .int (nI (N / 2)), .long (lN P)]) (rest := []) ⟨hx, hb, hml, hown, hts⟩ (m_power l (k ^ ((P - 1) / N) % P) (N / 2) P hP q3 (by omega) (by omega)) (va_cwS 3 hts gX0_rootOfUnity_X0_power rfl rfl rfl (by decide +kernel) ⟨Nat.le_of_ble_eq_true rfl, Nat.le_of_ble_eq_true rfl⟩) rfl hl.1 rfl (Nat.le_of_ble_eq_true rfl) dX0_rootOfUnity_33 ⟨Nat.zero_le _, Nat.zero_le _⟩ ?_
          refine lv_iload_n hx hb dX0_rootOfUnity_36 rfl (lv_at hl 2 rfl) ?_
          refine lv_iconst (v := nI 1) hx hb dX0_rootOfUnity_37 (by decide) ?_
          refine lv_isub hx hb dX0_rootOfUnity_38 ?_
          refine kt_i (v := nI (P - 1)) (pk_sub (by omega)) ?_
          refine lv_i2l (v := lN (P - 1)) hx hb dX0_rootOfUnity_39 (nI_l (by omega)) ?_
          refine W.lcmp hx hb dX0_rootOfUnity_40 ?_
          refine lv_if_ne (tgt := 46) hx hb dX0_rootOfUnity_41 (by decide) (fun hc3 => ?_) (fun hc3 => ?_)
          · have hnh : ¬ zhit N P k := fun z => hc3 ((lg_cmp_eq _ _).mpr (congrArg lN z))
            have hkh : k ≠ h := fun z => hnh (z ▸ a3)
            refine lv_iinc (v := nI (k + 1)) (lv' := [(2, .int (nI (k + 1))), (3, .long (lN (k ^ ((P - 1) / N) % P))), (0, .int (nI N)), (1, .int (nI P))]) hx hb dX0_rootOfUnity_46 hl (k := 3) rfl (nI_1 k) (by decide) rfl (fun ls hl => ?_)
            refine lv_goto (tgt := 9) hx hb dX0_rootOfUnity_49 (by decide) ?_
            exact ih (k + 1) (by omega) (by omega) (by omega) ls (lv_sub hl [2, 3, 0] rfl)
          · have hh : zhit N P k := (pk_lEQ (by omega) (by omega)).mp ((lg_cmp_eq _ _).mp hc3)
            have hkh : k = h := by
              rcases Nat.lt_or_ge k h with z | z
              · exact absurd hh (a4 k h2 z)
              · omega
            refine lv_lload_n hx hb dX0_rootOfUnity_44 rfl (lv_at hl 0 rfl) ?_
            exact kr_Sl hx hb hr hlocks (by rw [a5, hkh]) dX0_rootOfUnity_45
    exact loop (h + 1) 2 (by omega) (by omega) a1 ls (lv_sub hl [1, 2, 0] rfl)
  · have hN1 : N = 1 := by
      rcases Nat.lt_or_ge 1 N with z | z
      · exact absurd ((nI_ltI (by omega) (by omega)).mpr z) hc
      · omega
    obtain ⟨-, z1⟩ | ⟨z1, -⟩ := hW
    · refine lv_lconst (v := lN 1) hx hb dX0_rootOfUnity_5 (by decide) ?_
      exact kr_Sl hx hb hr hlocks (by rw [z1]) dX0_rootOfUnity_6
    · omega
