/-! the methods of the reference over its world -/
set_option maxHeartbeats 4000000 in
set_option maxRecDepth 100000 in
theorem k_put (l : Launch) (dC : Nat → ClassId) (dI : Nat → Nat → Nat) (h0 h1 h2 h3 sz : Nat) (cA cB cC : ClassId) (f g u : Nat → Int64) (k : Int32) (q : Int32) (v : Int64) : Met l yX1_put wsX1_put ({ frames := 0, cells := 0, slots := 0, locals := 0 }) (kPre (dC, dI) [(cA, .long), (cB, .long), (cC, .long)] [.ref h0, .int q, .long v] sz (w4 h0 h1 h2 h3 cA cB cC f g u k)) (kQi (dC, dI) [(cA, .long), (cB, .long), (cC, .long)] sz (w4 h0 h1 h2 h3 cA cB cC f g u k) (fun r w => (r = 1 ∧ ∃ j, j < 1024 ∧ q = nI j ∧ w = w4 h0 h1 h2 h3 cA cB cC (vp_updL f j v) g u k) ∨ (r = 0 ∧ (¬ ∃ j, j < 1024 ∧ q = nI j) ∧ w = w4 h0 h1 h2 h3 cA cB cC f g u k))) 0 0 (va_A (w4 h0 h1 h2 h3 cA cB cC f g u k) sz) := by
  refine k_met (cc := cX1_put) (maxL := 4) (ret := (some .boolean)) (by decide) rfl (Nat.le_of_ble_eq_true rfl) ?_
  intro p e s m below meth c ls hx hb hr hlocks hml hown hts hnm hK hP hD hS hA hl
  have hl : lv_has ls 4 [(0, .ref h0), (1, .int q), (2, .long v)] := hl
  have inws : ∀ w ∈ u_ws RX1 TX1 4, w ∈ wsX1_put := by decide +kernel
  refine lv_iload_n hx hb dX1_put_0 rfl (lv_at hl 1 rfl) ?_
  refine lv_if_lt (tgt := 11) hx hb dX1_put_1 (by decide) (fun hc => ?_) (fun hc => ?_)
  · refine lv_iconst (v := (0 : Int32)) hx hb dX1_put_11 (by decide) ?_
    exact kr_z hx hb hr rfl hlocks hK hP hD hS (Or.inr ⟨rfl, fun ⟨j, hj, e⟩ => nI_pos (show j < 2 ^ 31 by omega) (e ▸ hc), rfl⟩) dX1_put_12
  · obtain ⟨j, hj, e1⟩ := nI_of hc
    rw [e1] at hl
    refine lv_iload_n hx hb dX1_put_4 rfl (lv_at hl 1 rfl) ?_
    refine lv_sipush (v := nI 1024) hx hb dX1_put_5 (by decide) ?_
    refine lv_icmp_lt (tgt := 13) hx hb dX1_put_8 (by decide) (fun hc2 => ?_) (fun hc2 => ?_)
    · have hj2 : j < 1024 := (nI_ltI (by omega) (by omega)).mp hc2
      refine lv_aload_n hx hb dX1_put_13 rfl (lv_at hl 0 rfl) ?_
      refine va_get (D := (dC, dI)) (ci := 1) (v := .ref h1) (C := RX1) (T := TX1) (N := 4) hx hb hts inws hown hK hP 0 rfl rfl 0 (by decide) (hts (.fieldLink RX1 9 "ResidueTransformsModel" "row" "[J") (by decide +kernel)) (fun _ h9 => h9) rfl dX1_put_14 ?_
      refine lv_iload_n hx hb dX1_put_17 rfl (lv_at hl 1 rfl) ?_
      refine lv_lload_n hx hb dX1_put_18 rfl (lv_at hl 2 rfl) ?_
      refine ka_st (w1 := w4 h0 h1 h2 h3 cA cB cC (vp_updL f j v) g u k) hx hb hK hP hD hS 1 0 rfl rfl (i := j) (hj2) (by decide) dX1_put_19 (congrArg (fun z => w4 h0 h1 h2 h3 cA cB cC z g u k) (rfl)) (fun H locs hP hD hS => ?_)
      refine lv_iconst (v := (1 : Int32)) hx hb dX1_put_20 (by decide) ?_
      exact kr_z hx hb hr rfl hlocks hK hP hD hS (Or.inl ⟨rfl, j, hj2, e1, rfl⟩) dX1_put_21
    · refine lv_iconst (v := (0 : Int32)) hx hb dX1_put_11 (by decide) ?_
      exact kr_z hx hb hr rfl hlocks hK hP hD hS (Or.inr ⟨rfl, fun ⟨i, hi, e⟩ => hc2 ((nI_ltI (by omega) (by omega)).mpr (by have := (nI_eq hj (by omega)).mp (e1.symm.trans e); omega)), rfl⟩) dX1_put_12
set_option maxHeartbeats 4000000 in
set_option maxRecDepth 100000 in
theorem k_get (l : Launch) (dC : Nat → ClassId) (dI : Nat → Nat → Nat) (h0 h1 h2 h3 sz : Nat) (cA cB cC : ClassId) (f g u : Nat → Int64) (k : Int32) (q : Int32) : Met l yX1_get wsX1_get ({ frames := 0, cells := 0, slots := 0, locals := 0 }) (kPre (dC, dI) [(cA, .long), (cB, .long), (cC, .long)] [.ref h0, .int q] sz (w4 h0 h1 h2 h3 cA cB cC f g u k)) (kQl (dC, dI) [(cA, .long), (cB, .long), (cC, .long)] sz (w4 h0 h1 h2 h3 cA cB cC f g u k) (fun r w => w = w4 h0 h1 h2 h3 cA cB cC f g u k ∧ ((∃ j, j < 1024 ∧ q = nI j ∧ r = f j) ∨ ((¬ ∃ j, j < 1024 ∧ q = nI j) ∧ r = lN 0)))) 0 0 (va_A (w4 h0 h1 h2 h3 cA cB cC f g u k) sz) := by
  refine k_met (cc := cX1_get) (maxL := 2) (ret := (some .long)) (by decide) rfl (Nat.le_of_ble_eq_true rfl) ?_
  intro p e s m below meth c ls hx hb hr hlocks hml hown hts hnm hK hP hD hS hA hl
  have hl : lv_has ls 2 [(0, .ref h0), (1, .int q)] := hl
  have inws : ∀ w ∈ u_ws RX1 TX1 4, w ∈ wsX1_get := by decide +kernel
  refine lv_iload_n hx hb dX1_get_0 rfl (lv_at hl 1 rfl) ?_
  refine lv_if_lt (tgt := 20) hx hb dX1_get_1 (by decide) (fun hc => ?_) (fun hc => ?_)
  · refine lv_lconst (v := lN 0) hx hb dX1_get_20 (by decide) ?_
    exact kr_l hx hb hr hlocks hK hP hD hS ⟨rfl, Or.inr ⟨fun ⟨j, hj, e⟩ => nI_pos (show j < 2 ^ 31 by omega) (e ▸ hc), rfl⟩⟩ dX1_get_21
  · obtain ⟨j, hj, e1⟩ := nI_of hc
    rw [e1] at hl
    refine lv_iload_n hx hb dX1_get_4 rfl (lv_at hl 1 rfl) ?_
    refine lv_sipush (v := nI 1024) hx hb dX1_get_5 (by decide) ?_
    refine lv_icmp_ge (tgt := 20) hx hb dX1_get_8 (by decide) (fun hc2 => ?_) (fun hc2 => ?_)
    · refine lv_lconst (v := lN 0) hx hb dX1_get_20 (by decide) ?_
      exact kr_l hx hb hr hlocks hK hP hD hS ⟨rfl, Or.inr ⟨fun ⟨i, hi, e⟩ => absurd ((nI_leI (by omega) (by omega)).mp hc2) (by have := (nI_eq hj (by omega)).mp (e1.symm.trans e); omega), rfl⟩⟩ dX1_get_21
    · have hj2 : j < 1024 := Nat.not_le.mp fun z => hc2 ((nI_leI (by omega) (by omega)).mpr z)
      refine lv_aload_n hx hb dX1_get_11 rfl (lv_at hl 0 rfl) ?_
      refine va_get (D := (dC, dI)) (ci := 1) (v := .ref h1) (C := RX1) (T := TX1) (N := 4) hx hb hts inws hown hK hP 0 rfl rfl 0 (by decide) (hts (.fieldLink RX1 9 "ResidueTransformsModel" "row" "[J") (by decide +kernel)) (fun _ h9 => h9) rfl dX1_get_12 ?_
      refine lv_iload_n hx hb dX1_get_15 rfl (lv_at hl 1 rfl) ?_
      refine ka_ld hx hb hK hP 1 0 rfl rfl (i := j) (hj2) (by decide) dX1_get_16 ?_
      refine lv_goto (tgt := 21) hx hb dX1_get_17 (by decide) ?_
      exact kr_l hx hb hr hlocks hK hP hD hS ⟨rfl, Or.inl ⟨j, hj2, e1, rfl⟩⟩ dX1_get_21
set_option maxHeartbeats 4000000 in
set_option maxRecDepth 100000 in
theorem k_keep (l : Launch) (dC : Nat → ClassId) (dI : Nat → Nat → Nat) (h0 h1 h2 h3 sz : Nat) (cA cB cC : ClassId) (f g u : Nat → Int64) (k : Int32) (q : Int32) : Met l yX1_keep wsX1_keep ({ frames := 0, cells := 0, slots := 0, locals := 0 }) (kPre (dC, dI) [(cA, .long), (cB, .long), (cC, .long)] [.ref h0, .int q] sz (w4 h0 h1 h2 h3 cA cB cC f g u k)) (kQi (dC, dI) [(cA, .long), (cB, .long), (cC, .long)] sz (w4 h0 h1 h2 h3 cA cB cC f g u k) (fun r w => (r = 1 ∧ ∃ j, j ≤ 1024 ∧ q = nI j ∧ w = w4 h0 h1 h2 h3 cA cB cC f (zpt j f g) u (nI j)) ∨ (r = 0 ∧ (¬ ∃ j, j ≤ 1024 ∧ q = nI j) ∧ w = w4 h0 h1 h2 h3 cA cB cC f g u k))) 0 0 (va_A (w4 h0 h1 h2 h3 cA cB cC f g u k) sz) := by
  refine k_met (cc := cX1_keep) (maxL := 3) (ret := (some .boolean)) (by decide) rfl (Nat.le_of_ble_eq_true rfl) ?_
  intro p e s m below meth c ls hx hb hr hlocks hml hown hts hnm hK hP hD hS hA hl
  have hl : lv_has ls 3 [(0, .ref h0), (1, .int q)] := hl
  have inws : ∀ w ∈ u_ws RX1 TX1 4, w ∈ wsX1_keep := by decide +kernel
  refine lv_iload_n hx hb dX1_keep_0 rfl (lv_at hl 1 rfl) ?_
  refine lv_if_lt (tgt := 11) hx hb dX1_keep_1 (by decide) (fun hc => ?_) (fun hc => ?_)
  · refine lv_iconst (v := (0 : Int32)) hx hb dX1_keep_11 (by decide) ?_
    exact kr_z hx hb hr rfl hlocks hK hP hD hS (Or.inr ⟨rfl, fun ⟨j, hj, e⟩ => nI_pos (show j < 2 ^ 31 by omega) (e ▸ hc), rfl⟩) dX1_keep_12
  · obtain ⟨N, hNb, e1⟩ := nI_of hc
    rw [e1] at hl
    refine lv_iload_n hx hb dX1_keep_4 rfl (lv_at hl 1 rfl) ?_
    refine lv_sipush (v := nI 1024) hx hb dX1_keep_5 (by decide) ?_
    refine lv_icmp_le (tgt := 13) hx hb dX1_keep_8 (by decide) (fun hc2 => ?_) (fun hc2 => ?_)
    · have hN : N ≤ 1024 := (nI_leI (by omega) (by omega)).mp hc2
      refine lv_iconst (v := nI 0) hx hb dX1_keep_13 (by decide) ?_
      refine lv_istore_n (lv' := [(2, .int (nI 0)), (0, .ref h0), (1, .int (nI N))]) hx hb dX1_keep_14 rfl hl (by decide) rfl (fun ls hl => ?_)
      have loop : ∀ (n i : Nat), N + 1 ≤ i + n → i ≤ N → ∀ (H : Heap) (locs : List Loc), va_P (dC, dI) vwCl (w4 h0 h1 h2 h3 cA cB cC f (zpt i f g) u k) H → va_D (va_A (w4 h0 h1 h2 h3 cA cB cC f g u k) sz) (w4 h0 h1 h2 h3 cA cB cC f (zpt i f g) u k) → va_S (va_A (w4 h0 h1 h2 h3 cA cB cC f g u k) sz) s.heap H locs → ∀ (ls : Array Slot), lv_has ls 3 [(0, .ref h0), (1, .int (nI N)), (2, .int (nI i))] → W p l e ({ frames := 0, cells := 0, slots := 0, locals := 0 } : Room) s m ([.ref h0, .int q] : List Value).toArray below meth c H locs 0 0 (MQ below (kQi (dC, dI) [(cA, .long), (cB, .long), (cC, .long)] sz (w4 h0 h1 h2 h3 cA cB cC f g u k) (fun r w => (r = 1 ∧ ∃ j, j ≤ 1024 ∧ q = nI j ∧ w = w4 h0 h1 h2 h3 cA cB cC f (zpt j f g) u (nI j)) ∨ (r = 0 ∧ (¬ ∃ j, j ≤ 1024 ∧ q = nI j) ∧ w = w4 h0 h1 h2 h3 cA cB cC f g u k))) ([.ref h0, .int q] : List Value).toArray s 0 0 (va_A (w4 h0 h1 h2 h3 cA cB cC f g u k) sz)) (F0 m 15 ls []) := by
        intro n
        induction n with
        | zero => intro i y1 y2; exact absurd y1 (by omega)
        | succ n ih =>
          intro i y1 y2 H locs hP hD hS ls hl
          refine lv_iload_n hx hb dX1_keep_15 rfl (lv_at hl 2 rfl) ?_
          refine lv_iload_n hx hb dX1_keep_16 rfl (lv_at hl 1 rfl) ?_
          refine lv_icmp_ge (tgt := 38) hx hb dX1_keep_17 (by decide) (fun hc3 => ?_) (fun hc3 => ?_)
          · have hi : i = N := by have := (nI_leI (by omega) (by omega)).mp hc3; omega
            subst hi
            refine lv_aload_n hx hb dX1_keep_38 rfl (lv_at hl 0 rfl) ?_
            refine lv_iload_n hx hb dX1_keep_39 rfl (lv_at hl 1 rfl) ?_
            refine va_put (D := (dC, dI)) (ci := 1) (v := .int (nI i)) (ty := .int) (C := RX1) (T := TX1) (N := 4) hx hb hts inws tyX1 tyX1_ok nmX1 hown hK hP hD hS 0 rfl rfl 3 (by decide) (hts (.fieldLink RX1 42 "ResidueTransformsModel" "keptSize" "I") (by decide +kernel)) (fun _ h9 => h9) rfl (by decide +kernel) rfl rfl (Nat.le_of_ble_eq_true rfl) dX1_keep_40 (fun H locs hP hD hS => ?_)
            have hP : va_P (dC, dI) vwCl (w4 h0 h1 h2 h3 cA cB cC f (zpt i f g) u ((nI i))) H := hP
            have hD : va_D (va_A (w4 h0 h1 h2 h3 cA cB cC f g u k) sz) (w4 h0 h1 h2 h3 cA cB cC f (zpt i f g) u ((nI i))) := hD
            refine lv_iconst (v := (1 : Int32)) hx hb dX1_keep_43 (by decide) ?_
            exact kr_z hx hb hr rfl hlocks hK hP hD hS (Or.inl ⟨rfl, _, hN, e1, rfl⟩) dX1_keep_44
          · have hi : i < N := Nat.not_le.mp fun z => hc3 ((nI_leI (by omega) (by omega)).mpr z)
            refine lv_aload_n hx hb dX1_keep_20 rfl (lv_at hl 0 rfl) ?_
            refine va_get (D := (dC, dI)) (ci := 1) (v := .ref h2) (C := RX1) (T := TX1) (N := 4) hx hb hts inws hown hK hP 0 rfl rfl 1 (by decide) (hts (.fieldLink RX1 13 "ResidueTransformsModel" "kept" "[J") (by decide +kernel)) (fun _ h9 => h9) rfl dX1_keep_21 ?_
            refine lv_iload_n hx hb dX1_keep_24 rfl (lv_at hl 2 rfl) ?_
            refine lv_aload_n hx hb dX1_keep_25 rfl (lv_at hl 0 rfl) ?_
            refine va_get (D := (dC, dI)) (ci := 1) (v := .ref h1) (C := RX1) (T := TX1) (N := 4) hx hb hts inws hown hK hP 0 rfl rfl 0 (by decide) (hts (.fieldLink RX1 9 "ResidueTransformsModel" "row" "[J") (by decide +kernel)) (fun _ h9 => h9) rfl dX1_keep_26 ?_
            refine lv_iload_n hx hb dX1_keep_29 rfl (lv_at hl 2 rfl) ?_
            refine ka_ld hx hb hK hP 1 0 rfl rfl (i := i) (by omega) (by decide) dX1_keep_30 ?_
            refine ka_st (w1 := w4 h0 h1 h2 h3 cA cB cC f (zpt (i + 1) f g) u k) hx hb hK hP hD hS 2 1 rfl rfl (i := i) (by omega) (by decide) dX1_keep_31 (congrArg (fun z => w4 h0 h1 h2 h3 cA cB cC f z u k) (zpt_up rfl)) (fun H locs hP hD hS => ?_)
            refine lv_iinc (v := nI (i + 1)) (lv' := [(2, .int (nI (i + 1))), (0, .ref h0), (1, .int (nI N))]) hx hb dX1_keep_32 hl (k := 2) rfl (nI_1 i) (by decide) rfl (fun ls hl => ?_)
            refine lv_goto (tgt := 15) hx hb dX1_keep_35 (by decide) ?_
            exact ih (i + 1) (by omega) (by omega) H locs hP hD hS ls (lv_sub hl [1, 2, 0] rfl)
      exact loop (N + 1) 0 (by omega) (by omega) _ _ (by rw [zpt_0]; exact hP) (by rw [zpt_0]; exact hD) hS ls (lv_sub hl [1, 2, 0] rfl)
    · refine lv_iconst (v := (0 : Int32)) hx hb dX1_keep_11 (by decide) ?_
      exact kr_z hx hb hr rfl hlocks hK hP hD hS (Or.inr ⟨rfl, fun ⟨i, hi, e⟩ => hc2 ((nI_leI (by omega) (by omega)).mpr (by have := (nI_eq hNb (by omega)).mp (e1.symm.trans e); omega)), rfl⟩) dX1_keep_12
set_option maxHeartbeats 4000000 in
set_option maxRecDepth 100000 in
theorem k_times (l : Launch) (dC : Nat → ClassId) (dI : Nat → Nat → Nat) (h0 h1 h2 h3 sz : Nat) (cA cB cC : ClassId) (f g u : Nat → Int64) (ks : Nat) (hks : ks ≤ 1024) (q1 q2 : Int32) : Met l yX1_times wsX1_times ({ frames := 1, cells := 0, slots := 0, locals := 22 }) (kPre (dC, dI) [(cA, .long), (cB, .long), (cC, .long)] [.ref h0, .int q1, .int q2] sz (w4 h0 h1 h2 h3 cA cB cC f g u ((nI ks)))) (kQi (dC, dI) [(cA, .long), (cB, .long), (cC, .long)] sz (w4 h0 h1 h2 h3 cA cB cC f g u ((nI ks))) (fun r w => (r = -1 ∧ (¬ zci q1) ∧ w = w4 h0 h1 h2 h3 cA cB cC f g u (nI ks)) ∨ (r = -2 ∧ zci q1 ∧ ¬ zok q2 ∧ w = w4 h0 h1 h2 h3 cA cB cC f g u (nI ks)) ∨ (r = 0 ∧ ∃ j P1, j ≤ 1024 ∧ q1 = nI j ∧ q2 = nI P1 ∧ 3 ≤ P1 ∧ P1 ≤ 1000000007 ∧ ztd P1 ∧ w = w4 h0 h1 h2 h3 cA cB cC (zpt j (fun t => if t < ks then lN (zrs P1 (f t) * zrs P1 (g t) % P1) else lN 0) f) g u (nI ks)))) 0 0 (va_A (w4 h0 h1 h2 h3 cA cB cC f g u ((nI ks))) sz) := by
  refine k_met (cc := cX1_times) (maxL := 4) (ret := (some .int)) (by decide) rfl (Nat.le_of_ble_eq_true rfl) ?_
  intro p e s m below meth c ls hx hb hr hlocks hml hown hts hnm hK hP hD hS hA hl
  have hl : lv_has ls 4 [(0, .ref h0), (1, .int q1), (2, .int q2)] := hl
  have inws : ∀ w ∈ u_ws RX1 TX1 4, w ∈ wsX1_times := by decide +kernel
  refine lv_iload_n hx hb dX1_times_0 rfl (lv_at hl 1 rfl) ?_
  refine lv_if_lt (tgt := 11) hx hb dX1_times_1 (by decide) (fun hc => ?_) (fun hc => ?_)
  · refine lv_iconst (v := -1) hx hb dX1_times_11 (by decide) ?_
    exact kr_i hx hb hr hlocks hK hP hD hS (Or.inl ⟨rfl, fun ⟨j, hj, e⟩ => nI_pos (show j < 2 ^ 31 by omega) (e ▸ hc), rfl⟩) dX1_times_12
  · obtain ⟨N, hNb, e1⟩ := nI_of hc
    rw [e1] at hl
    refine lv_iload_n hx hb dX1_times_4 rfl (lv_at hl 1 rfl) ?_
    refine lv_sipush (v := nI 1024) hx hb dX1_times_5 (by decide) ?_
    refine lv_icmp_le (tgt := 13) hx hb dX1_times_8 (by decide) (fun hc2 => ?_) (fun hc2 => ?_)
    · have hN : N ≤ 1024 := (nI_leI (by omega) (by omega)).mp hc2
      refine lv_iload_n hx hb dX1_times_13 rfl (lv_at hl 2 rfl) ?_
      refine kc_i (As := [.int q2]) (rest := []) ⟨hx, hb, hml, hown, hts⟩ (k_isPrime l q2) (va_cwS 1 hts gX1_times_X1_isPrime rfl rfl rfl (by decide +kernel) ⟨Nat.le_of_ble_eq_true rfl, Nat.le_of_ble_eq_true rfl⟩) rfl hl.1 rfl (Nat.le_of_ble_eq_true rfl) dX1_times_14 ⟨Nat.zero_le _, Nat.zero_le _⟩ (fun r2 hr2 => ?_)
      rcases hr2 with ⟨rfl, hp⟩ | ⟨rfl, hp⟩
      · refine lv_if_ne (tgt := 23) hx hb dX1_times_17 (by decide) (fun _ => ?_) (fun hc => absurd hc (by decide))
        obtain ⟨P, e2, hp1, hp2, hp3⟩ := hp
        rw [e2] at hl
        refine lv_iconst (v := nI 0) hx hb dX1_times_23 (by decide) ?_
        refine lv_istore_n (lv' := [(3, .int (nI 0)), (0, .ref h0), (1, .int (nI N)), (2, .int (nI P))]) hx hb dX1_times_24 rfl hl (by decide) rfl (fun ls hl => ?_)
        have loop : ∀ (n i : Nat), N + 1 ≤ i + n → i ≤ N → ∀ (H : Heap) (locs : List Loc), va_P (dC, dI) vwCl (w4 h0 h1 h2 h3 cA cB cC (zpt i (fun t => if t < ks then lN (zrs P (f t) * zrs P (g t) % P) else lN 0) f) g u ((nI ks))) H → va_D (va_A (w4 h0 h1 h2 h3 cA cB cC f g u ((nI ks))) sz) (w4 h0 h1 h2 h3 cA cB cC (zpt i (fun t => if t < ks then lN (zrs P (f t) * zrs P (g t) % P) else lN 0) f) g u ((nI ks))) → va_S (va_A (w4 h0 h1 h2 h3 cA cB cC f g u ((nI ks))) sz) s.heap H locs → ∀ (ls : Array Slot), lv_has ls 4 [(0, .ref h0), (1, .int (nI N)), (2, .int (nI P)), (3, .int (nI i))] → W p l e ({ frames := 1, cells := 0, slots := 0, locals := 22 } : Room) s m ([.ref h0, .int q1, .int q2] : List Value).toArray below meth c H locs 0 0 (MQ below (kQi (dC, dI) [(cA, .long), (cB, .long), (cC, .long)] sz (w4 h0 h1 h2 h3 cA cB cC f g u ((nI ks))) (fun r w => (r = -1 ∧ (¬ zci q1) ∧ w = w4 h0 h1 h2 h3 cA cB cC f g u (nI ks)) ∨ (r = -2 ∧ zci q1 ∧ ¬ zok q2 ∧ w = w4 h0 h1 h2 h3 cA cB cC f g u (nI ks)) ∨ (r = 0 ∧ ∃ j P1, j ≤ 1024 ∧ q1 = nI j ∧ q2 = nI P1 ∧ 3 ≤ P1 ∧ P1 ≤ 1000000007 ∧ ztd P1 ∧ w = w4 h0 h1 h2 h3 cA cB cC (zpt j (fun t => if t < ks then lN (zrs P1 (f t) * zrs P1 (g t) % P1) else lN 0) f) g u (nI ks)))) ([.ref h0, .int q1, .int q2] : List Value).toArray s 0 0 (va_A (w4 h0 h1 h2 h3 cA cB cC f g u ((nI ks))) sz)) (F0 m 25 ls []) := by
          intro n
          induction n with
          | zero => intro i y1 y2; exact absurd y1 (by omega)
          | succ n ih =>
            intro i y1 y2 H locs hP hD hS ls hl
            refine lv_iload_n hx hb dX1_times_25 rfl (lv_at hl 3 rfl) ?_
            refine lv_iload_n hx hb dX1_times_26 rfl (lv_at hl 1 rfl) ?_
            refine lv_icmp_ge (tgt := 78) hx hb dX1_times_27 (by decide) (fun hc3 => ?_) (fun hc3 => ?_)
            · have hi : i = N := by have := (nI_leI (by omega) (by omega)).mp hc3; omega
              rw [hi] at hP hD
              refine lv_iconst (v := (0 : Int32)) hx hb dX1_times_78 (by decide) ?_
              exact kr_i hx hb hr hlocks hK hP hD hS (Or.inr (Or.inr ⟨rfl, N, P, hN, e1, e2, hp1, hp2, hp3, rfl⟩)) dX1_times_79
            · have hi : i < N := Nat.not_le.mp fun z => hc3 ((nI_leI (by omega) (by omega)).mpr z)
              refine lv_aload_n hx hb dX1_times_30 rfl (lv_at hl 0 rfl) ?_
              refine va_get (D := (dC, dI)) (ci := 1) (v := .ref h1) (C := RX1) (T := TX1) (N := 4) hx hb hts inws hown hK hP 0 rfl rfl 0 (by decide) (hts (.fieldLink RX1 9 "ResidueTransformsModel" "row" "[J") (by decide +kernel)) (fun _ h9 => h9) rfl dX1_times_31 ?_
              refine lv_iload_n hx hb dX1_times_34 rfl (lv_at hl 3 rfl) ?_
              refine lv_iload_n hx hb dX1_times_35 rfl (lv_at hl 3 rfl) ?_
              refine lv_aload_n hx hb dX1_times_36 rfl (lv_at hl 0 rfl) ?_
              refine va_get (D := (dC, dI)) (ci := 1) (v := .int (nI ks)) (C := RX1) (T := TX1) (N := 4) hx hb hts inws hown hK hP 0 rfl rfl 3 (by decide) (hts (.fieldLink RX1 42 "ResidueTransformsModel" "keptSize" "I") (by decide +kernel)) (fun _ h9 => h9) rfl dX1_times_37 ?_
              refine lv_icmp_ge (tgt := 70) hx hb dX1_times_40 (by decide) (fun hc4 => ?_) (fun hc4 => ?_)
              · have hik : ¬ i < ks := by have := (nI_leI (by omega) (by omega)).mp hc4; omega
                refine lv_lconst (v := lN 0) hx hb dX1_times_70 (by decide) ?_
                refine ka_st (w1 := w4 h0 h1 h2 h3 cA cB cC (zpt (i + 1) (fun t => if t < ks then lN (zrs P (f t) * zrs P (g t) % P) else lN 0) f) g u ((nI ks))) hx hb hK hP hD hS 1 0 rfl rfl (i := i) (by omega) (by decide) dX1_times_71 (congrArg (fun z => w4 h0 h1 h2 h3 cA cB cC z g u ((nI ks))) (zpt_up (if_neg hik).symm)) (fun H locs hP hD hS => ?_)
                refine lv_iinc (v := nI (i + 1)) (lv' := [(3, .int (nI (i + 1))), (0, .ref h0), (1, .int (nI N)), (2, .int (nI P))]) hx hb dX1_times_72 hl (k := 3) rfl (nI_1 i) (by decide) rfl (fun ls hl => ?_)
                refine lv_goto (tgt := 25) hx hb dX1_times_75 (by decide) ?_
                exact ih (i + 1) (by omega) (by omega) H locs hP hD hS ls (lv_sub hl [1, 2, 3, 0] rfl)
              · have hik : i < ks := Nat.not_le.mp fun z => hc4 ((nI_leI (by omega) (by omega)).mpr z)
                refine lv_aload_n hx hb dX1_times_43 rfl (lv_at hl 0 rfl) ?_
                refine va_get (D := (dC, dI)) (ci := 1) (v := .ref h1) (C := RX1) (T := TX1) (N := 4) hx hb hts inws hown hK hP 0 rfl rfl 0 (by decide) (hts (.fieldLink RX1 9 "ResidueTransformsModel" "row" "[J") (by decide +kernel)) (fun _ h9 => h9) rfl dX1_times_44 ?_
                refine lv_iload_n hx hb dX1_times_47 rfl (lv_at hl 3 rfl) ?_
                refine ka_ld hx hb hK hP 1 0 rfl rfl (i := i) (by omega) (by decide) dX1_times_48 ?_
                refine kt_l (v := f i) (zpt_at) ?_
                refine lv_iload_n hx hb dX1_times_49 rfl (lv_at hl 2 rfl) ?_
                refine kc_lv (As := [.long (f i), .int (nI P)]) (rest := [.int (nI i), .ref h1]) ⟨hx, hb, hml, hown, hts⟩ (k_rest l (f i) P (by omega) (by omega)) (va_cwS 2 hts gX1_times_X1_rest rfl rfl rfl (by decide +kernel) ⟨Nat.le_of_ble_eq_true rfl, Nat.le_of_ble_eq_true rfl⟩) rfl hl.1 rfl (Nat.le_of_ble_eq_true rfl) dX1_times_50 ⟨Nat.zero_le _, Nat.zero_le _⟩ ?_
                refine lv_aload_n hx hb dX1_times_53 rfl (lv_at hl 0 rfl) ?_
                refine va_get (D := (dC, dI)) (ci := 1) (v := .ref h2) (C := RX1) (T := TX1) (N := 4) hx hb hts inws hown hK hP 0 rfl rfl 1 (by decide) (hts (.fieldLink RX1 13 "ResidueTransformsModel" "kept" "[J") (by decide +kernel)) (fun _ h9 => h9) rfl dX1_times_54 ?_
                refine lv_iload_n hx hb dX1_times_57 rfl (lv_at hl 3 rfl) ?_
                refine ka_ld hx hb hK hP 2 1 rfl rfl (i := i) (by omega) (by decide) dX1_times_58 ?_
                refine lv_iload_n hx hb dX1_times_59 rfl (lv_at hl 2 rfl) ?_
                refine kc_lv (As := [.long (g (i)), .int (nI P)]) (rest := [.long (lN (zrs P (f i))), .int (nI i), .ref h1]) ⟨hx, hb, hml, hown, hts⟩ (k_rest l (g i) P (by omega) (by omega)) (va_cwS 2 hts gX1_times_X1_rest rfl rfl rfl (by decide +kernel) ⟨Nat.le_of_ble_eq_true rfl, Nat.le_of_ble_eq_true rfl⟩) rfl hl.1 rfl (Nat.le_of_ble_eq_true rfl) dX1_times_60 ⟨Nat.zero_le _, Nat.zero_le _⟩ ?_
                refine lv_lmul hx hb dX1_times_63 ?_
                refine lv_iload_n hx hb dX1_times_64 rfl (lv_at hl 2 rfl) ?_
                refine lv_i2l (v := lN P) hx hb dX1_times_65 (nI_l (by omega)) ?_
                refine lv_lrem hx hb dX1_times_66 (zl_ne (by omega) (by omega)) ?_
                refine kt_l (v := lN (zrs P (f i) * zrs P (g i) % P)) (z_pr hp2 (zrs_lt (by omega) _) (zrs_lt (by omega) _)) ?_
                refine lv_goto (tgt := 71) hx hb dX1_times_67 (by decide) ?_
                refine ka_st (w1 := w4 h0 h1 h2 h3 cA cB cC (zpt (i + 1) (fun t => if t < ks then lN (zrs P (f t) * zrs P (g t) % P) else lN 0) f) g u ((nI ks))) hx hb hK hP hD hS 1 0 rfl rfl (i := i) (by omega) (by decide) dX1_times_71 (congrArg (fun z => w4 h0 h1 h2 h3 cA cB cC z g u ((nI ks))) (zpt_up (if_pos hik).symm)) (fun H locs hP hD hS => ?_)
                refine lv_iinc (v := nI (i + 1)) (lv' := [(3, .int (nI (i + 1))), (0, .ref h0), (1, .int (nI N)), (2, .int (nI P))]) hx hb dX1_times_72 hl (k := 3) rfl (nI_1 i) (by decide) rfl (fun ls hl => ?_)
                refine lv_goto (tgt := 25) hx hb dX1_times_75 (by decide) ?_
                exact ih (i + 1) (by omega) (by omega) H locs hP hD hS ls (lv_sub hl [1, 2, 3, 0] rfl)
        exact loop (N + 1) 0 (by omega) (by omega) _ _ (by rw [zpt_0]; exact hP) (by rw [zpt_0]; exact hD) hS ls (lv_sub hl [1, 2, 3, 0] rfl)
      · refine lv_if_ne (tgt := 23) hx hb dX1_times_17 (by decide) (fun hc => absurd rfl hc) (fun _ => ?_)
        refine lv_bipush (v := -2) hx hb dX1_times_20 (by decide) ?_
        exact kr_i hx hb hr hlocks hK hP hD hS (Or.inr (Or.inl ⟨rfl, ⟨N, hN, e1⟩, hp, rfl⟩)) dX1_times_22
    · refine lv_iconst (v := -1) hx hb dX1_times_11 (by decide) ?_
      exact kr_i hx hb hr hlocks hK hP hD hS (Or.inl ⟨rfl, fun ⟨i, hi, e⟩ => hc2 ((nI_leI (by omega) (by omega)).mpr (by have := (nI_eq hNb (by omega)).mp (e1.symm.trans e); omega)), rfl⟩) dX1_times_12
set_option maxHeartbeats 4000000 in
set_option maxRecDepth 100000 in
theorem k_root (l : Launch) (dC : Nat → ClassId) (dI : Nat → Nat → Nat) (h0 h1 h2 h3 sz : Nat) (cA cB cC : ClassId) (f g u : Nat → Int64) (k : Int32) (q1 q2 : Int32) : Met l yX1_root wsX1_root ({ frames := 2, cells := 0, slots := 0, locals := 55 }) (kPre (dC, dI) [(cA, .long), (cB, .long), (cC, .long)] [.ref h0, .int q1, .int q2] sz (w4 h0 h1 h2 h3 cA cB cC f g u k)) (kQl (dC, dI) [(cA, .long), (cB, .long), (cC, .long)] sz (w4 h0 h1 h2 h3 cA cB cC f g u k) (fun r w => w = w4 h0 h1 h2 h3 cA cB cC f g u k ∧ ((∃ z, zrf q1 q2 z ∧ ¬ z = 0 ∧ r = lN 0) ∨ (∃ L P w0, zgo q1 q2 L P ∧ 2 ^ L ∣ P - 1 ∧ zW (2 ^ L) P w0 ∧ r = lN w0)))) 0 0 (va_A (w4 h0 h1 h2 h3 cA cB cC f g u k) sz) := by
  refine k_met (cc := cX1_root) (maxL := 3) (ret := (some .long)) (by decide) rfl (Nat.le_of_ble_eq_true rfl) ?_
  intro p e s m below meth c ls hx hb hr hlocks hml hown hts hnm hK hP hD hS hA hl
  have hl : lv_has ls 3 [(0, .ref h0), (1, .int q1), (2, .int q2)] := hl
  refine lv_iload_n hx hb dX1_root_0 rfl (lv_at hl 1 rfl) ?_
  refine lv_iload_n hx hb dX1_root_1 rfl (lv_at hl 2 rfl) ?_
  refine kc_i (As := [.int q1, .int q2]) (rest := []) ⟨hx, hb, hml, hown, hts⟩ (k_refused l q1 q2) (va_cwS 2 hts gX1_root_X1_refused rfl rfl rfl (by decide +kernel) ⟨Nat.le_of_ble_eq_true rfl, Nat.le_of_ble_eq_true rfl⟩) rfl hl.1 rfl (Nat.le_of_ble_eq_true rfl) dX1_root_2 ⟨Nat.zero_le _, Nat.zero_le _⟩ (fun r1 hr1 => ?_)
  refine lv_if_ge (tgt := 12) hx hb dX1_root_5 (by decide) (fun hc => ?_) (fun hc => ?_)
  · obtain ⟨z, -⟩ | ⟨z, -⟩ | ⟨z, -⟩ | ⟨-, L, P, ⟨hL, e1, e2, hp1, hp2, hp3⟩, hd⟩ := hr1
    · exact absurd (z ▸ hc) (by decide)
    · exact absurd (z ▸ hc) (by decide)
    · exact absurd (z ▸ hc) (by decide)
    obtain ⟨w0, hW⟩ := zW_all hp1 hp3 hd
    have h2p := z_2pow hL
    rw [e1, e2] at hl
    refine lv_iload_n hx hb dX1_root_12 rfl (lv_at hl 1 rfl) ?_
    refine lv_iload_n hx hb dX1_root_13 rfl (lv_at hl 2 rfl) ?_
    refine kc_lv (As := [.int (nI (2 ^ L)), .int (nI P)]) (rest := []) ⟨hx, hb, hml, hown, hts⟩ (k_rootOf l (2 ^ L) P w0 hp2 hp1 (by omega) (by omega) hW) (va_cwS 2 hts gX1_root_X1_rootOf rfl rfl rfl (by decide +kernel) ⟨Nat.le_of_ble_eq_true rfl, Nat.le_of_ble_eq_true rfl⟩) rfl hl.1 rfl (Nat.le_of_ble_eq_true rfl) dX1_root_14 ⟨Nat.zero_le _, Nat.zero_le _⟩ ?_
    exact kr_l hx hb hr hlocks hK hP hD hS ⟨rfl, Or.inr ⟨L, P, w0, ⟨hL, e1, e2, hp1, hp2, hp3⟩, hd, hW, rfl⟩⟩ dX1_root_17
  · refine lv_lconst (v := lN 0) hx hb dX1_root_8 (by decide) ?_
    refine lv_goto (tgt := 17) hx hb dX1_root_9 (by decide) ?_
    exact kr_l hx hb hr hlocks hK hP hD hS ⟨rfl, Or.inl ⟨r1, hr1, fun z => hc (by rw [z]; decide), rfl⟩⟩ dX1_root_17
