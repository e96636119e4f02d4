/-! times, root, transform -/
def zci (q : Int32) : Prop := ∃ j, j ≤ 1024 ∧ q = nI j
set_option maxHeartbeats 4000000 in
set_option maxRecDepth 100000 in
theorem m_times (l : Launch) (dC : Nat → ClassId) (dI : Nat → Nat → Nat) (h0 h1 h2 sz : Nat) (cA cB : ClassId) (f g : Nat → Int64) (q1 q2 : Int32) : Met l yX0_times wsX0_times ({ frames := 2, cells := 0, slots := 0, locals := 48 }) (kPre (dC, dI) [(cA, .long), (cB, .long)] [.ref h0, .int q1, .int q2] sz (w3 h0 h1 h2 cA cB f g)) (kQi (dC, dI) [(cA, .long), (cB, .long)] sz (w3 h0 h1 h2 cA cB f g) (fun r w => (r = -1 ∧ (¬ zci q1) ∧ w = w3 h0 h1 h2 cA cB f g) ∨ (r = -2 ∧ zci q1 ∧ ¬ zok q2 ∧ w = w3 h0 h1 h2 cA cB f g) ∨ (r = 0 ∧ ∃ j P1, j ≤ 1024 ∧ q1 = nI j ∧ q2 = nI P1 ∧ 3 ≤ P1 ∧ P1 ≤ 1000000007 ∧ ztd P1 ∧ w = w3 h0 h1 h2 cA cB (zpt j (fun t => lN (zrs P1 (f t) * zrs P1 (g t) % P1)) f) g))) 0 0 (va_A (w3 h0 h1 h2 cA cB f g) sz) := by
  refine k_met (cc := cX0_times) (maxL := 4) (ret := (some .int)) (by decide) rfl (Nat.le_of_ble_eq_true rfl) ?_
  intro p e s m below meth c ls hx hb hr hlocks hml hown hts hnm hK hP hD hS hA hl
  have hl : lv_has ls 4 [(0, .ref h0), (1, .int q1), (2, .int q2)] := hl
  have inws : ∀ w ∈ u_ws RX0 TX0 2, w ∈ wsX0_times := by decide +kernel
  refine lv_iload_n hx hb dX0_times_0 rfl (lv_at hl 1 rfl) ?_
  refine kc_i (As := [.int q1]) (rest := []) ⟨hx, hb, hml, hown, hts⟩ (m_isCount l q1) (va_cwS 1 hts gX0_times_X0_isCount rfl rfl rfl (by decide +kernel) ⟨Nat.le_of_ble_eq_true rfl, Nat.le_of_ble_eq_true rfl⟩) rfl hl.1 rfl (Nat.le_of_ble_eq_true rfl) dX0_times_1 ⟨Nat.zero_le _, Nat.zero_le _⟩ (fun r1 hr1 => ?_)
  rcases hr1 with ⟨rfl, N, hN, rfl⟩ | ⟨rfl, hn⟩
  · refine lv_if_ne (tgt := 9) hx hb dX0_times_4 (by decide) (fun _ => ?_) (fun hc => absurd hc (by decide))
    refine lv_iload_n hx hb dX0_times_9 rfl (lv_at hl 2 rfl) ?_
    refine kc_i (As := [.int q2]) (rest := []) ⟨hx, hb, hml, hown, hts⟩ (m_isUsablePrime l q2) (va_cwS 1 hts gX0_times_X0_isUsablePrime rfl rfl rfl (by decide +kernel) ⟨Nat.le_of_ble_eq_true rfl, Nat.le_of_ble_eq_true rfl⟩) rfl hl.1 rfl (Nat.le_of_ble_eq_true rfl) dX0_times_10 ⟨Nat.zero_le _, Nat.zero_le _⟩ (fun r2 hr2 => ?_)
    rcases hr2 with ⟨rfl, hp⟩ | ⟨rfl, hp⟩
    · refine lv_if_ne (tgt := 19) hx hb dX0_times_13 (by decide) (fun _ => ?_) (fun hc => absurd hc (by decide))
      obtain ⟨P, rfl, hp1, hp2, hp3⟩ := hp
      refine lv_iconst (v := nI 0) hx hb dX0_times_19 (by decide) ?_
      refine lv_istore_n (lv' := [(3, .int (nI 0)), (0, .ref h0), (1, .int (nI N)), (2, .int (nI P))]) hx hb dX0_times_20 rfl hl (by decide) rfl (fun ls hl => ?_)
      have loop : ∀ (n i : Nat), N + 1 ≤ i + n → i ≤ N → ∀ (H : Heap) (locs : List Loc), va_P (dC, dI) vwCl (w3 h0 h1 h2 cA cB (zpt i (fun t => lN (zrs P (f t) * zrs P (g t) % P)) f) g) H → va_D (va_A (w3 h0 h1 h2 cA cB f g) sz) (w3 h0 h1 h2 cA cB (zpt i (fun t => lN (zrs P (f t) * zrs P (g t) % P)) f) g) → va_S (va_A (w3 h0 h1 h2 cA cB f g) sz) s.heap H locs → ∀ (ls : Array Slot), lv_has ls 4 [(0, .ref h0), (1, .int (nI N)), (2, .int (nI P)), (3, .int (nI i))] → W p l e ({ frames := 2, cells := 0, slots := 0, locals := 48 } : Room) s m ([.ref h0, .int (nI N), .int (nI P)] : List Value).toArray below meth c H locs 0 0 (MQ below (kQi (dC, dI) [(cA, .long), (cB, .long)] sz (w3 h0 h1 h2 cA cB f g) (fun r w => (r = -1 ∧ (¬ zci (nI N)) ∧ w = w3 h0 h1 h2 cA cB f g) ∨ (r = -2 ∧ zci (nI N) ∧ ¬ zok (nI P) ∧ w = w3 h0 h1 h2 cA cB f g) ∨ (r = 0 ∧ ∃ j P1, j ≤ 1024 ∧ nI N = nI j ∧ nI P = nI P1 ∧ 3 ≤ P1 ∧ P1 ≤ 1000000007 ∧ ztd P1 ∧ w = w3 h0 h1 h2 cA cB (zpt j (fun t => lN (zrs P1 (f t) * zrs P1 (g t) % P1)) f) g))) ([.ref h0, .int (nI N), .int (nI P)] : List Value).toArray s 0 0 (va_A (w3 h0 h1 h2 cA cB f g) sz)) (F0 m 21 ls []) := by
        intro n
        induction n with
        | zero => intro i y1 y2; exact absurd y1 (by omega)
        | succ n ih =>
          intro i y1 y2 H locs hP hD hS ls hl
          refine lv_iload_n hx hb dX0_times_21 rfl (lv_at hl 3 rfl) ?_
          refine lv_iload_n hx hb dX0_times_22 rfl (lv_at hl 1 rfl) ?_
          refine lv_icmp_ge (tgt := 65) hx hb dX0_times_23 (by decide) (fun hc => ?_) (fun hc => ?_)
          · have hi : i = N := by have := (nI_leI (by omega) (by omega)).mp hc; omega
            subst hi
            refine lv_iconst (v := (0 : Int32)) hx hb dX0_times_65 (by decide) ?_
            exact kr_i hx hb hr hlocks hK hP hD hS (Or.inr (Or.inr ⟨rfl, _, P, hN, rfl, rfl, hp1, hp2, hp3, rfl⟩)) dX0_times_66
          · have hi : i < N := Nat.not_le.mp fun z => hc ((nI_leI (by omega) (by omega)).mpr z)
            refine lv_aload_n hx hb dX0_times_26 rfl (lv_at hl 0 rfl) ?_
            refine va_get (D := (dC, dI)) (ci := 0) (v := .ref h1) (C := RX0) (T := TX0) (N := 2) hx hb hts inws hown hK hP 0 rfl rfl 0 (by decide) (hts (.fieldLink RX0 9 "ResidueTransforms" "row" "[J") (by decide +kernel)) (fun _ h9 => h9) rfl dX0_times_27 ?_
            refine lv_iload_n hx hb dX0_times_30 rfl (lv_at hl 3 rfl) ?_
            refine lv_aload_n hx hb dX0_times_31 rfl (lv_at hl 0 rfl) ?_
            refine va_get (D := (dC, dI)) (ci := 0) (v := .ref h1) (C := RX0) (T := TX0) (N := 2) hx hb hts inws hown hK hP 0 rfl rfl 0 (by decide) (hts (.fieldLink RX0 9 "ResidueTransforms" "row" "[J") (by decide +kernel)) (fun _ h9 => h9) rfl dX0_times_32 ?_
            refine lv_iload_n hx hb dX0_times_35 rfl (lv_at hl 3 rfl) ?_
            refine ka_ld hx hb hK hP 1 0 rfl rfl (i := i) (by omega) (by decide) dX0_times_36 ?_
            refine kt_l (v := f i) (zpt_at) ?_
            refine lv_iload_n hx hb dX0_times_37 rfl (lv_at hl 2 rfl) ?_
            refine lv_i2l (v := lN P) hx hb dX0_times_38 (nI_l (by omega)) ?_
            refine kc_lv (As := [.long (f i), .long (lN P)]) (rest := [.int (nI i), .ref h1]) ⟨hx, hb, hml, hown, hts⟩ (m_rest l (f i) P (by omega) (by omega)) (va_cwS 2 hts gX0_times_X0_rest rfl rfl rfl (by decide +kernel) ⟨Nat.le_of_ble_eq_true rfl, Nat.le_of_ble_eq_true rfl⟩) rfl hl.1 rfl (Nat.le_of_ble_eq_true rfl) dX0_times_39 ⟨Nat.zero_le _, Nat.zero_le _⟩ ?_
            refine lv_aload_n hx hb dX0_times_42 rfl (lv_at hl 0 rfl) ?_
            refine va_get (D := (dC, dI)) (ci := 0) (v := .ref h2) (C := RX0) (T := TX0) (N := 2) hx hb hts inws hown hK hP 0 rfl rfl 1 (by decide) (hts (.fieldLink RX0 13 "ResidueTransforms" "kept" "[J") (by decide +kernel)) (fun _ h9 => h9) rfl dX0_times_43 ?_
            refine lv_iload_n hx hb dX0_times_46 rfl (lv_at hl 3 rfl) ?_
            refine ka_ld hx hb hK hP 2 1 rfl rfl (i := i) (by omega) (by decide) dX0_times_47 ?_
            refine lv_iload_n hx hb dX0_times_48 rfl (lv_at hl 2 rfl) ?_
            refine lv_i2l (v := lN P) hx hb dX0_times_49 (nI_l (by omega)) ?_
            refine kc_lv (As := [.long (g (i)), .long (lN P)]) (rest := [.long (lN (zrs P (f i))), .int (nI i), .ref h1]) ⟨hx, hb, hml, hown, hts⟩ (m_rest l (g i) P (by omega) (by omega)) (va_cwS 2 hts gX0_times_X0_rest rfl rfl rfl (by decide +kernel) ⟨Nat.le_of_ble_eq_true rfl, Nat.le_of_ble_eq_true rfl⟩) rfl hl.1 rfl (Nat.le_of_ble_eq_true rfl) dX0_times_50 ⟨Nat.zero_le _, Nat.zero_le _⟩ ?_
            refine lv_iload_n hx hb dX0_times_53 rfl (lv_at hl 2 rfl) ?_
            refine lv_i2l (v := lN P) hx hb dX0_times_54 (nI_l (by omega)) ?_
            refine kc_lv (As := [.long (lN (zrs P (f i))), .long (lN (zrs P (g i))), .long (lN P)]) (rest := [.int (nI i), .ref h1]) ⟨hx, hb, hml, hown, hts⟩ (m_product l _ _ P hp2 (zrs_lt (by omega) _) (zrs_lt (by omega) _)) (va_cwS 3 hts gX0_times_X0_product rfl rfl rfl (by decide +kernel) ⟨Nat.le_of_ble_eq_true rfl, Nat.le_of_ble_eq_true rfl⟩) rfl hl.1 rfl (Nat.le_of_ble_eq_true rfl) dX0_times_55 ⟨Nat.zero_le _, Nat.zero_le _⟩ ?_
            refine ka_st (w1 := w3 h0 h1 h2 cA cB (zpt (i + 1) (fun t => lN (zrs P (f t) * zrs P (g t) % P)) f) g) hx hb hK hP hD hS 1 0 rfl rfl (i := i) (by omega) (by decide) dX0_times_58 (congrArg (fun z => w3 h0 h1 h2 cA cB z g) (zpt_up rfl)) (fun H locs hP hD hS => ?_)
            refine lv_iinc (v := nI (i + 1)) (lv' := [(3, .int (nI (i + 1))), (0, .ref h0), (1, .int (nI N)), (2, .int (nI P))]) hx hb dX0_times_59 hl (k := 3) rfl (nI_1 i) (by decide) rfl (fun ls hl => ?_)
            refine lv_goto (tgt := 21) hx hb dX0_times_62 (by decide) ?_
            exact ih (i + 1) (by omega) (by omega) H locs hP hD hS ls (lv_sub hl [1, 2, 3, 0] rfl)
      exact loop (N + 1) 0 (by omega) (by omega) _ _ (by rw [zpt_0]; exact hP) (by rw [zpt_0]; exact hD) hS ls (lv_sub hl [1, 2, 3, 0] rfl)
    · refine lv_if_ne (tgt := 19) hx hb dX0_times_13 (by decide) (fun hc => absurd rfl hc) (fun _ => ?_)
      refine lv_bipush (v := -2) hx hb dX0_times_16 (by decide) ?_
      exact kr_i hx hb hr hlocks hK hP hD hS (Or.inr (Or.inl ⟨rfl, ⟨N, hN, rfl⟩, hp, rfl⟩)) dX0_times_18
  · refine lv_if_ne (tgt := 9) hx hb dX0_times_4 (by decide) (fun hc => absurd rfl hc) (fun _ => ?_)
    refine lv_iconst (v := -1) hx hb dX0_times_7 (by decide) ?_
    exact kr_i hx hb hr hlocks hK hP hD hS (Or.inl ⟨rfl, hn, rfl⟩) dX0_times_8
set_option maxHeartbeats 4000000 in
set_option maxRecDepth 100000 in
theorem m_root (l : Launch) (dC : Nat → ClassId) (dI : Nat → Nat → Nat) (h0 h1 h2 sz : Nat) (cA cB : ClassId) (f g : Nat → Int64) (q1 q2 : Int32) : Met l yX0_root wsX0_root ({ frames := 3, cells := 0, slots := 0, locals := 78 }) (kPre (dC, dI) [(cA, .long), (cB, .long)] [.ref h0, .int q1, .int q2] sz (w3 h0 h1 h2 cA cB f g)) (kQl (dC, dI) [(cA, .long), (cB, .long)] sz (w3 h0 h1 h2 cA cB f g) (fun r w => w = w3 h0 h1 h2 cA cB f g ∧ ((∃ z, zrf q1 q2 z ∧ ¬ z = 0 ∧ r = lN 0) ∨ (∃ L P w0, zgo q1 q2 L P ∧ 2 ^ L ∣ P - 1 ∧ zW (2 ^ L) P w0 ∧ r = lN w0)))) 0 0 (va_A (w3 h0 h1 h2 cA cB f g) sz) := by
  refine k_met (cc := cX0_root) (maxL := 3) (ret := (some .long)) (by decide) rfl (Nat.le_of_ble_eq_true rfl) ?_
  intro p e s m below meth c ls hx hb hr hlocks hml hown hts hnm hK hP hD hS hA hl
  have hl : lv_has ls 3 [(0, .ref h0), (1, .int q1), (2, .int q2)] := hl
  refine lv_iload_n hx hb dX0_root_0 rfl (lv_at hl 1 rfl) ?_
  refine lv_iload_n hx hb dX0_root_1 rfl (lv_at hl 2 rfl) ?_
  refine kc_i (As := [.int q1, .int q2]) (rest := []) ⟨hx, hb, hml, hown, hts⟩ (m_refusalOf l q1 q2) (va_cwS 2 hts gX0_root_X0_refusalOf rfl rfl rfl (by decide +kernel) ⟨Nat.le_of_ble_eq_true rfl, Nat.le_of_ble_eq_true rfl⟩) rfl hl.1 rfl (Nat.le_of_ble_eq_true rfl) dX0_root_2 ⟨Nat.zero_le _, Nat.zero_le _⟩ (fun r1 hr1 => ?_)
  refine lv_if_ne (tgt := 16) hx hb dX0_root_5 (by decide) (fun hc => ?_) (fun hc => ?_)
  · refine lv_lconst (v := lN 0) hx hb dX0_root_16 (by decide) ?_
    exact kr_l hx hb hr hlocks hK hP hD hS ⟨rfl, Or.inl ⟨r1, hr1, hc, rfl⟩⟩ dX0_root_17
  · subst hc
    obtain ⟨z, -⟩ | ⟨z, -⟩ | ⟨z, -⟩ | ⟨-, L, P, ⟨hL, rfl, rfl, hp1, hp2, hp3⟩, hd⟩ := hr1
    · exact absurd z (by decide)
    · exact absurd z (by decide)
    · exact absurd z (by decide)
    obtain ⟨w0, hW⟩ := zW_all hp1 hp3 hd
    have h2p := z_2pow hL
    refine lv_iload_n hx hb dX0_root_8 rfl (lv_at hl 1 rfl) ?_
    refine lv_iload_n hx hb dX0_root_9 rfl (lv_at hl 2 rfl) ?_
    refine kc_lv (As := [.int (nI (2 ^ L)), .int (nI P)]) (rest := []) ⟨hx, hb, hml, hown, hts⟩ (m_rootOfUnity l (2 ^ L) P w0 hp2 hp1 (by omega) (by omega) hW) (va_cwS 2 hts gX0_root_X0_rootOfUnity rfl rfl rfl (by decide +kernel) ⟨Nat.le_of_ble_eq_true rfl, Nat.le_of_ble_eq_true rfl⟩) rfl hl.1 rfl (Nat.le_of_ble_eq_true rfl) dX0_root_10 ⟨Nat.zero_le _, Nat.zero_le _⟩ ?_
    refine lv_goto (tgt := 17) hx hb dX0_root_13 (by decide) ?_
    exact kr_l hx hb hr hlocks hK hP hD hS ⟨rfl, Or.inr ⟨L, P, w0, ⟨hL, rfl, rfl, hp1, hp2, hp3⟩, hd, hW, rfl⟩⟩ dX0_root_17
set_option maxHeartbeats 4000000 in
set_option maxRecDepth 100000 in
theorem m_transform (l : Launch) (dC : Nat → ClassId) (dI : Nat → Nat → Nat) (h0 h1 h2 sz : Nat) (cA cB : ClassId) (f g : Nat → Int64) (q1 q2 q3 : Int32) : Met l yX0_transform wsX0_transform ({ frames := 3, cells := 0, slots := 0, locals := 87 }) (kPre (dC, dI) [(cA, .long), (cB, .long)] [.ref h0, .int q1, .int q2, .int q3] sz (w3 h0 h1 h2 cA cB f g)) (kQi (dC, dI) [(cA, .long), (cB, .long)] sz (w3 h0 h1 h2 cA cB f g) (fun r w => (zrf q1 q2 r ∧ ¬ r = 0 ∧ w = w3 h0 h1 h2 cA cB f g) ∨ (r = 0 ∧ ∃ L P w0, zgo q1 q2 L P ∧ 2 ^ L ∣ P - 1 ∧ zW (2 ^ L) P w0 ∧ w = w3 h0 h1 h2 cA cB (zT L P w0 q3 f) g))) 0 0 (va_A (w3 h0 h1 h2 cA cB f g) sz) := by
  refine k_met (cc := cX0_transform) (maxL := 7) (ret := (some .int)) (by decide) rfl (Nat.le_of_ble_eq_true rfl) ?_
  intro p e s m below meth c ls hx hb hr hlocks hml hown hts hnm hK hP hD hS hA hl
  have hl : lv_has ls 7 [(0, .ref h0), (1, .int q1), (2, .int q2), (3, .int q3)] := hl
  refine lv_iload_n hx hb dX0_transform_0 rfl (lv_at hl 1 rfl) ?_
  refine lv_iload_n hx hb dX0_transform_1 rfl (lv_at hl 2 rfl) ?_
  refine kc_i (As := [.int q1, .int q2]) (rest := []) ⟨hx, hb, hml, hown, hts⟩ (m_refusalOf l q1 q2) (va_cwS 2 hts gX0_transform_X0_refusalOf rfl rfl rfl (by decide +kernel) ⟨Nat.le_of_ble_eq_true rfl, Nat.le_of_ble_eq_true rfl⟩) rfl hl.1 rfl (Nat.le_of_ble_eq_true rfl) dX0_transform_2 ⟨Nat.zero_le _, Nat.zero_le _⟩ (fun r1 hr1 => ?_)
  refine lv_istore (lv' := [(4, .int (r1)), (0, .ref h0), (1, .int q1), (2, .int q2), (3, .int q3)]) hx hb dX0_transform_5 hl (by decide) rfl (fun ls hl => ?_)
  refine lv_iload hx hb dX0_transform_7 (lv_at hl 0 rfl) ?_
  refine lv_if_eq (tgt := 15) hx hb dX0_transform_9 (by decide) (fun hc => ?_) (fun hc => ?_)
  · obtain ⟨z, -⟩ | ⟨z, -⟩ | ⟨z, -⟩ | ⟨-, L, P, ⟨hL, rfl, rfl, hp1, hp2, hp3⟩, hd⟩ := hr1
    · exact absurd (hc.symm.trans z) (by decide)
    · exact absurd (hc.symm.trans z) (by decide)
    · exact absurd (hc.symm.trans z) (by decide)
    obtain ⟨w0, hW⟩ := zW_all hp1 hp3 hd
    have h2p := z_2pow hL
    have hNP := z_dvd_lt hp1 hd
    have hw0 := zW_lt hp1 hW
    refine lv_iload_n hx hb dX0_transform_15 rfl (lv_at hl 2 rfl) ?_
    refine lv_iload_n hx hb dX0_transform_16 rfl (lv_at hl 3 rfl) ?_
    refine kc_lv (As := [.int (nI (2 ^ L)), .int (nI P)]) (rest := []) ⟨hx, hb, hml, hown, hts⟩ (m_rootOfUnity l (2 ^ L) P w0 hp2 hp1 (by omega) (by omega) hW) (va_cwS 2 hts gX0_transform_X0_rootOfUnity rfl rfl rfl (by decide +kernel) ⟨Nat.le_of_ble_eq_true rfl, Nat.le_of_ble_eq_true rfl⟩) rfl hl.1 rfl (Nat.le_of_ble_eq_true rfl) dX0_transform_17 ⟨Nat.zero_le _, Nat.zero_le _⟩ ?_
    refine lv_lstore (lv' := [(5, .long (lN w0)), (4, .int r1), (0, .ref h0), (1, .int (nI (2 ^ L))), (2, .int (nI P)), (3, .int q3)]) hx hb dX0_transform_20 hl (by decide) rfl (fun ls hl => ?_)
    refine lv_aload_n hx hb dX0_transform_22 rfl (lv_at hl 2 rfl) ?_
    refine lv_iload_n hx hb dX0_transform_23 rfl (lv_at hl 3 rfl) ?_
    refine lv_iload_n hx hb dX0_transform_24 rfl (lv_at hl 4 rfl) ?_
    refine lv_i2l (v := lN P) hx hb dX0_transform_25 (nI_l (by omega)) ?_
    refine kv_v (As := [.int (nI (2 ^ L)), .long (lN P)]) (rest := []) (ci := 0) (q := (RX0, TX0, 2)) (wc := w3 h0 h1 h2 cA cB f g) (wr := []) ⟨hx, hb, hml, hown, hts⟩ (m_reduce l dC dI h0 h1 h2 _ cA cB f g (2 ^ L) P (by omega) (by omega) (by omega)) (cwV 2 hts gX0_transform_X0_reduce rfl rfl rfl (by decide +kernel) ⟨Nat.le_of_ble_eq_true rfl, Nat.le_of_ble_eq_true rfl⟩) hK hK hP hD hS hA [0, 1, 2] [] rfl rfl rfl (by decide) hP hD rfl rfl rfl hl.1 rfl (Nat.le_of_ble_eq_true rfl) dX0_transform_26 ⟨Nat.zero_le _, Nat.zero_le _⟩ (fun w9 H locs hw9 hP hD hS => ?_)
    have hw9 : w9 = w3 h0 h1 h2 cA cB (zem (2 ^ L) (fun j => zrs P (f j)) f) g := hw9
    subst hw9
    have hP : va_P (dC, dI) vwCl (w3 h0 h1 h2 cA cB (zem (2 ^ L) (fun j => zrs P (f j)) f) g) H := hP
    have hD : va_D (va_A (w3 h0 h1 h2 cA cB f g) sz) (w3 h0 h1 h2 cA cB (zem (2 ^ L) (fun j => zrs P (f j)) f) g) := hD
    refine lv_aload_n hx hb dX0_transform_29 rfl (lv_at hl 2 rfl) ?_
    refine lv_iload_n hx hb dX0_transform_30 rfl (lv_at hl 3 rfl) ?_
    refine kv_v (As := [.int (nI (2 ^ L))]) (rest := []) (ci := 0) (q := (RX0, TX0, 2)) (wc := w3 h0 h1 h2 cA cB (zem (2 ^ L) (fun j => zrs P (f j)) f) g) (wr := []) ⟨hx, hb, hml, hown, hts⟩ (m_reorder l dC dI h0 h1 h2 _ cA cB f g _ L hL) (cwV 1 hts gX0_transform_X0_reorder rfl rfl rfl (by decide +kernel) ⟨Nat.le_of_ble_eq_true rfl, Nat.le_of_ble_eq_true rfl⟩) hK hK hP hD hS hA [0, 1, 2] [] rfl rfl rfl (by decide) hP hD rfl rfl rfl hl.1 rfl (Nat.le_of_ble_eq_true rfl) dX0_transform_31 ⟨Nat.zero_le _, Nat.zero_le _⟩ (fun w9 H locs hw9 hP hD hS => ?_)
    have hw9 : w9 = w3 h0 h1 h2 cA cB (zem (2 ^ L) (zo L (fun j => zrs P (f j)) (2 ^ L)) f) g := hw9
    subst hw9
    have hP : va_P (dC, dI) vwCl (w3 h0 h1 h2 cA cB (zem (2 ^ L) (zo L (fun j => zrs P (f j)) (2 ^ L)) f) g) H := hP
    have hD : va_D (va_A (w3 h0 h1 h2 cA cB f g) sz) (w3 h0 h1 h2 cA cB (zem (2 ^ L) (zo L (fun j => zrs P (f j)) (2 ^ L)) f) g) := hD
    have hG : ∀ t, t < 2 ^ L → zo L (fun j => zrs P (f j)) (2 ^ L) t < P := fun t ht => zo_lt (Nat.le_refl _) (fun j _ => zrs_lt (by omega) _) _ t (Nat.le_refl _) ht
    refine lv_iload_n hx hb dX0_transform_34 rfl (lv_at hl 5 rfl) ?_
    refine lv_if_eq (tgt := 66) hx hb dX0_transform_35 (by decide) (fun hc2 => ?_) (fun hc2 => ?_)
    · refine lv_aload_n hx hb dX0_transform_66 rfl (lv_at hl 2 rfl) ?_
      refine lv_iload_n hx hb dX0_transform_67 rfl (lv_at hl 3 rfl) ?_
      refine lv_lload hx hb dX0_transform_68 (lv_at hl 0 rfl) ?_
      refine lv_iload_n hx hb dX0_transform_70 rfl (lv_at hl 4 rfl) ?_
      refine kv_v (As := [.int (nI (2 ^ L)), .long (lN w0), .int (nI P)]) (rest := []) (ci := 0) (q := (RX0, TX0, 2)) (wc := w3 h0 h1 h2 cA cB (zem (2 ^ L) (zo L (fun j => zrs P (f j)) (2 ^ L)) f) g) (wr := []) ⟨hx, hb, hml, hown, hts⟩ (m_joinHalves l dC dI h0 h1 h2 _ cA cB f g _ L w0 P hL hp2 hp1 hw0 hG) (cwV 3 hts gX0_transform_X0_joinHalves rfl rfl rfl (by decide +kernel) ⟨Nat.le_of_ble_eq_true rfl, Nat.le_of_ble_eq_true rfl⟩) hK hK hP hD hS hA [0, 1, 2] [] rfl rfl rfl (by decide) hP hD rfl rfl rfl hl.1 rfl (Nat.le_of_ble_eq_true rfl) dX0_transform_71 ⟨Nat.zero_le _, Nat.zero_le _⟩ (fun w9 H locs hw9 hP hD hS => ?_)
      have hw9 : w9 = w3 h0 h1 h2 cA cB (zem (2 ^ L) (zft P (2 ^ L) w0 (zo L (fun j => zrs P (f j)) (2 ^ L)) L) f) g := hw9
      subst hw9
      have hP : va_P (dC, dI) vwCl (w3 h0 h1 h2 cA cB (zem (2 ^ L) (zft P (2 ^ L) w0 (zo L (fun j => zrs P (f j)) (2 ^ L)) L) f) g) H := hP
      have hD : va_D (va_A (w3 h0 h1 h2 cA cB f g) sz) (w3 h0 h1 h2 cA cB (zem (2 ^ L) (zft P (2 ^ L) w0 (zo L (fun j => zrs P (f j)) (2 ^ L)) L) f) g) := hD
      refine lv_iconst (v := (0 : Int32)) hx hb dX0_transform_74 (by decide) ?_
      exact kr_i hx hb hr hlocks hK hP hD hS (Or.inr ⟨rfl, L, P, w0, ⟨hL, rfl, rfl, hp1, hp2, hp3⟩, hd, hW, by rw [zT_fwd hp1 hW, hc2]⟩) dX0_transform_75
    · have hv := Nat.mod_lt (w0 ^ (P - 2)) (show 0 < P by omega)
      have hv2 := Nat.mod_lt ((2 ^ L) ^ (P - 2)) (show 0 < P by omega)
      refine lv_aload_n hx hb dX0_transform_38 rfl (lv_at hl 2 rfl) ?_
      refine lv_iload_n hx hb dX0_transform_39 rfl (lv_at hl 3 rfl) ?_
      refine lv_lload hx hb dX0_transform_40 (lv_at hl 0 rfl) ?_
      refine lv_iload_n hx hb dX0_transform_42 rfl (lv_at hl 4 rfl) ?_
      refine kc_lv (As := [.long (lN w0), .int (nI P)]) (rest := [.int (nI (2 ^ L)), .ref h0]) ⟨hx, hb, hml, hown, hts⟩ (m_inverse l w0 P hp2 hw0 (by omega)) (va_cwS 2 hts gX0_transform_X0_inverse rfl rfl rfl (by decide +kernel) ⟨Nat.le_of_ble_eq_true rfl, Nat.le_of_ble_eq_true rfl⟩) rfl hl.1 rfl (Nat.le_of_ble_eq_true rfl) dX0_transform_43 ⟨Nat.zero_le _, Nat.zero_le _⟩ ?_
      refine lv_iload_n hx hb dX0_transform_46 rfl (lv_at hl 4 rfl) ?_
      refine kv_v (As := [.int (nI (2 ^ L)), .long (lN (w0 ^ (P - 2) % P)), .int (nI P)]) (rest := []) (ci := 0) (q := (RX0, TX0, 2)) (wc := w3 h0 h1 h2 cA cB (zem (2 ^ L) (zo L (fun j => zrs P (f j)) (2 ^ L)) f) g) (wr := []) ⟨hx, hb, hml, hown, hts⟩ (m_joinHalves l dC dI h0 h1 h2 _ cA cB f g _ L (w0 ^ (P - 2) % P) P hL hp2 hp1 hv hG) (cwV 3 hts gX0_transform_X0_joinHalves rfl rfl rfl (by decide +kernel) ⟨Nat.le_of_ble_eq_true rfl, Nat.le_of_ble_eq_true rfl⟩) hK hK hP hD hS hA [0, 1, 2] [] rfl rfl rfl (by decide) hP hD rfl rfl rfl hl.1 rfl (Nat.le_of_ble_eq_true rfl) dX0_transform_47 ⟨Nat.zero_le _, Nat.zero_le _⟩ (fun w9 H locs hw9 hP hD hS => ?_)
      have hw9 : w9 = w3 h0 h1 h2 cA cB (zem (2 ^ L) (zft P (2 ^ L) (w0 ^ (P - 2) % P) (zo L (fun j => zrs P (f j)) (2 ^ L)) L) f) g := hw9
      subst hw9
      have hP : va_P (dC, dI) vwCl (w3 h0 h1 h2 cA cB (zem (2 ^ L) (zft P (2 ^ L) (w0 ^ (P - 2) % P) (zo L (fun j => zrs P (f j)) (2 ^ L)) L) f) g) H := hP
      have hD : va_D (va_A (w3 h0 h1 h2 cA cB f g) sz) (w3 h0 h1 h2 cA cB (zem (2 ^ L) (zft P (2 ^ L) (w0 ^ (P - 2) % P) (zo L (fun j => zrs P (f j)) (2 ^ L)) L) f) g) := hD
      refine lv_aload_n hx hb dX0_transform_50 rfl (lv_at hl 2 rfl) ?_
      refine lv_iload_n hx hb dX0_transform_51 rfl (lv_at hl 3 rfl) ?_
      refine lv_iload_n hx hb dX0_transform_52 rfl (lv_at hl 3 rfl) ?_
      refine lv_i2l (v := lN (2 ^ L)) hx hb dX0_transform_53 (nI_l (by omega)) ?_
      refine lv_iload_n hx hb dX0_transform_54 rfl (lv_at hl 4 rfl) ?_
      refine kc_lv (As := [.long (lN (2 ^ L)), .int (nI P)]) (rest := [.int (nI (2 ^ L)), .ref h0]) ⟨hx, hb, hml, hown, hts⟩ (m_inverse l (2 ^ L) P hp2 hNP (by omega)) (va_cwS 2 hts gX0_transform_X0_inverse rfl rfl rfl (by decide +kernel) ⟨Nat.le_of_ble_eq_true rfl, Nat.le_of_ble_eq_true rfl⟩) rfl hl.1 rfl (Nat.le_of_ble_eq_true rfl) dX0_transform_55 ⟨Nat.zero_le _, Nat.zero_le _⟩ ?_
      refine lv_iload_n hx hb dX0_transform_58 rfl (lv_at hl 4 rfl) ?_
      refine lv_i2l (v := lN P) hx hb dX0_transform_59 (nI_l (by omega)) ?_
      refine kv_v (As := [.int (nI (2 ^ L)), .long (lN ((2 ^ L) ^ (P - 2) % P)), .long (lN P)]) (rest := []) (ci := 0) (q := (RX0, TX0, 2)) (wc := w3 h0 h1 h2 cA cB (zem (2 ^ L) (zft P (2 ^ L) (w0 ^ (P - 2) % P) (zo L (fun j => zrs P (f j)) (2 ^ L)) L) f) g) (wr := []) ⟨hx, hb, hml, hown, hts⟩ (m_scale l dC dI h0 h1 h2 _ cA cB f g _ (2 ^ L) ((2 ^ L) ^ (P - 2) % P) P (by omega) hp2 hv2 (zft_lt (by omega) hG L)) (cwV 3 hts gX0_transform_X0_scale rfl rfl rfl (by decide +kernel) ⟨Nat.le_of_ble_eq_true rfl, Nat.le_of_ble_eq_true rfl⟩) hK hK hP hD hS hA [0, 1, 2] [] rfl rfl rfl (by decide) hP hD rfl rfl rfl hl.1 rfl (Nat.le_of_ble_eq_true rfl) dX0_transform_60 ⟨Nat.zero_le _, Nat.zero_le _⟩ (fun w9 H locs hw9 hP hD hS => ?_)
      have hw9 : w9 = w3 h0 h1 h2 cA cB (zem (2 ^ L) (fun j => zft P (2 ^ L) (w0 ^ (P - 2) % P) (zo L (fun j => zrs P (f j)) (2 ^ L)) L j * ((2 ^ L) ^ (P - 2) % P) % P) f) g := hw9
      subst hw9
      have hP : va_P (dC, dI) vwCl (w3 h0 h1 h2 cA cB (zem (2 ^ L) (fun j => zft P (2 ^ L) (w0 ^ (P - 2) % P) (zo L (fun j => zrs P (f j)) (2 ^ L)) L j * ((2 ^ L) ^ (P - 2) % P) % P) f) g) H := hP
      have hD : va_D (va_A (w3 h0 h1 h2 cA cB f g) sz) (w3 h0 h1 h2 cA cB (zem (2 ^ L) (fun j => zft P (2 ^ L) (w0 ^ (P - 2) % P) (zo L (fun j => zrs P (f j)) (2 ^ L)) L j * ((2 ^ L) ^ (P - 2) % P) % P) f) g) := hD
      refine lv_goto (tgt := 74) hx hb dX0_transform_63 (by decide) ?_
      refine lv_iconst (v := (0 : Int32)) hx hb dX0_transform_74 (by decide) ?_
      exact kr_i hx hb hr hlocks hK hP hD hS (Or.inr ⟨rfl, L, P, w0, ⟨hL, rfl, rfl, hp1, hp2, hp3⟩, hd, hW, by rw [zT_back hc2 hp1 hp3 hW]⟩) dX0_transform_75
  · refine lv_iload hx hb dX0_transform_12 (lv_at hl 0 rfl) ?_
    exact kr_i hx hb hr hlocks hK hP hD hS (Or.inl ⟨hr1, hc, rfl⟩) dX0_transform_14
