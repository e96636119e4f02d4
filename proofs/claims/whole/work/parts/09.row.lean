/-! the private methods of the class over the row -/
theorem zpt_zem {n : Nat} {G G2 : Nat → Nat} {f : Nat → Int64} : zpt n (fun j => lN (G2 j)) (zem n G f) = zem n G2 f := by
  funext j
  unfold zpt zem
  by_cases e : j < n
  · simp [e]
  · simp [e]
theorem zps_lt {P h fac j N : Nat} {G : Nat → Nat} (hP : 0 < P) (hG : ∀ t, t < N → G t < P) : ∀ b t, t < N → zps P h fac j G b t < P := by
  intro b
  induction b with
  | zero => exact hG
  | succ b ih =>
    intro t ht
    show zu (zu (zps P h fac j G b) _ _) _ _ t < P
    unfold zu
    split
    · exact Nat.mod_lt _ hP
    · split
      · exact Nat.mod_lt _ hP
      · exact ih t ht
theorem zlv_lt {P h st B N : Nat} {G : Nat → Nat} (hP : 0 < P) (hG : ∀ t, t < N → G t < P) : ∀ j t, t < N → zlv P h st B G j t < P := by
  intro j
  induction j with
  | zero => exact hG
  | succ j ih => exact zps_lt hP ih B
theorem zft_lt {P M w N : Nat} {G : Nat → Nat} (hP : 0 < P) (hG : ∀ t, t < N → G t < P) : ∀ s t, t < N → zft P M w G s t < P := by
  intro s
  induction s with
  | zero => exact hG
  | succ s ih => exact zlv_lt hP ih (2 ^ s)
theorem zo_lt {L N P : Nat} {G : Nat → Nat} (hL : 2 ^ L ≤ N) (hG : ∀ t, t < N → G t < P) : ∀ i t, i ≤ 2 ^ L → t < N → zo L G i t < P := by
  intro i
  induction i with
  | zero => intro t _ ht; exact hG t ht
  | succ i ih =>
    intro t hi ht
    show (if i < zr L i then zu (zu (zo L G i) i (zo L G i (zr L i))) (zr L i) (zo L G i i) else zo L G i) t < P
    have h1 := zr_lt L i
    split
    · unfold zu
      split
      · exact ih i (by omega) (by omega)
      · split
        · exact ih _ (by omega) (by omega)
        · exact ih t (by omega) ht
    · exact ih t (by omega) ht
theorem zl_spm {a b P : Nat} (h : b ≤ a + P) : lN a - lN b + lN P = lN (a + P - b) := by
  rw [← lN_sub h, ← lN_add]
  apply Int64.toInt_inj.mp
  simp only [Int64.toInt_add, Int64.toInt_sub]
  simp
  congr 1
  omega
set_option maxHeartbeats 4000000 in
set_option maxRecDepth 100000 in
theorem m_reduce (l : Launch) (dC : Nat → ClassId) (dI : Nat → Nat → Nat) (h0 h1 h2 sz : Nat) (cA cB : ClassId) (f g : Nat → Int64) (N P : Nat) (hN : N ≤ 1024) (h0P : 0 < P) (hPP : P < 2 ^ 31) : Met l yX0_reduce wsX0_reduce ({ frames := 2, cells := 0, slots := 0, locals := 48 }) (kPre (dC, dI) [(cA, .long), (cB, .long)] [.ref h0, .int (nI N), .long (lN P)] sz (w3 h0 h1 h2 cA cB f g)) (kQv (dC, dI) [(cA, .long), (cB, .long)] sz (w3 h0 h1 h2 cA cB f g) (fun w => w = w3 h0 h1 h2 cA cB (zem N (fun j => zrs P (f j)) f) g)) 0 0 (va_A (w3 h0 h1 h2 cA cB f g) sz) := by
  refine k_met (cc := cX0_reduce) (maxL := 5) (ret := none) (by decide) rfl (Nat.le_of_ble_eq_true rfl) ?_
  intro p e s m below meth c ls hx hb hr hlocks hml hown hts hnm hK hP hD hS hA hl
  have hl : lv_has ls 5 [(0, .ref h0), (1, .int (nI N)), (2, .long (lN P))] := hl
  have inws : ∀ w ∈ u_ws RX0 TX0 2, w ∈ wsX0_reduce := by decide +kernel
  refine lv_iconst (v := nI 0) hx hb dX0_reduce_0 (by decide) ?_
  refine lv_istore (lv' := [(4, .int (nI 0)), (0, .ref h0), (1, .int (nI N)), (2, .long (lN P))]) hx hb dX0_reduce_1 hl (by decide) rfl (fun ls hl => ?_)
  have loop : ∀ (n i : Nat), N + 1 ≤ i + n → i ≤ N → ∀ (H : Heap) (locs : List Loc), va_P (dC, dI) vwCl (w3 h0 h1 h2 cA cB (zpt i (fun j => lN (zrs P (f j))) f) g) H → va_D (va_A (w3 h0 h1 h2 cA cB f g) sz) (w3 h0 h1 h2 cA cB (zpt i (fun j => lN (zrs P (f j))) f) g) → va_S (va_A (w3 h0 h1 h2 cA cB f g) sz) s.heap H locs → ∀ (ls : Array Slot), lv_has ls 5 [(0, .ref h0), (1, .int (nI N)), (2, .long (lN P)), (4, .int (nI i))] → W p l e ({ frames := 2, cells := 0, slots := 0, locals := 48 } : Room) s m ([.ref h0, .int (nI N), .long (lN P)] : List Value).toArray below meth c H locs 0 0 (MQ below (kQv (dC, dI) [(cA, .long), (cB, .long)] sz (w3 h0 h1 h2 cA cB f g) (fun w => w = w3 h0 h1 h2 cA cB (zem N (fun j => zrs P (f j)) f) g)) ([.ref h0, .int (nI N), .long (lN P)] : List Value).toArray s 0 0 (va_A (w3 h0 h1 h2 cA cB f g) sz)) (F0 m 3 ls []) := by
    intro n
    induction n with
    | zero => intro i y1 y2; exact absurd y1 (by omega)
    | succ n ih =>
      intro i y1 y2 H locs hP hD hS ls hl
      refine lv_iload hx hb dX0_reduce_3 (lv_at hl 3 rfl) ?_
      refine lv_iload_n hx hb dX0_reduce_5 rfl (lv_at hl 1 rfl) ?_
      refine lv_icmp_ge (tgt := 33) hx hb dX0_reduce_6 (by decide) (fun hc => ?_) (fun hc => ?_)
      · have hi : i = N := by have := (nI_leI (by omega) (by omega)).mp hc; omega
        subst hi
        exact kr_v hx hb hr hlocks hK hP hD hS rfl dX0_reduce_33
      · have hi : i < N := Nat.not_le.mp fun z => hc ((nI_leI (by omega) (by omega)).mpr z)
        refine lv_aload_n hx hb dX0_reduce_9 rfl (lv_at hl 0 rfl) ?_
        refine va_get (D := (dC, dI)) (ci := 0) (v := .ref h1) (C := RX0) (T := TX0) (N := 2) hx hb hts inws hown hK hP 0 rfl rfl 0 (by decide) (hts (.fieldLink RX0 9 "ResidueTransforms" "row" "[J") (by decide +kernel)) (fun _ h9 => h9) rfl dX0_reduce_10 ?_
        refine lv_iload hx hb dX0_reduce_13 (lv_at hl 3 rfl) ?_
        refine lv_aload_n hx hb dX0_reduce_15 rfl (lv_at hl 0 rfl) ?_
        refine va_get (D := (dC, dI)) (ci := 0) (v := .ref h1) (C := RX0) (T := TX0) (N := 2) hx hb hts inws hown hK hP 0 rfl rfl 0 (by decide) (hts (.fieldLink RX0 9 "ResidueTransforms" "row" "[J") (by decide +kernel)) (fun _ h9 => h9) rfl dX0_reduce_16 ?_
        refine lv_iload hx hb dX0_reduce_19 (lv_at hl 3 rfl) ?_
        refine ka_ld hx hb hK hP 1 0 rfl rfl (i := i) (by omega) (by decide) dX0_reduce_21 ?_
        refine kt_l (v := f i) (zpt_at) ?_
        refine lv_lload_n hx hb dX0_reduce_22 rfl (lv_at hl 2 rfl) ?_
        refine kc_lv (As := [.long (f i), .long (lN P)]) (rest := [.int (nI i), .ref h1]) ⟨hx, hb, hml, hown, hts⟩ (m_rest l (f i) P h0P hPP) (va_cwS 2 hts gX0_reduce_X0_rest rfl rfl rfl (by decide +kernel) ⟨Nat.le_of_ble_eq_true rfl, Nat.le_of_ble_eq_true rfl⟩) rfl hl.1 rfl (Nat.le_of_ble_eq_true rfl) dX0_reduce_23 ⟨Nat.zero_le _, Nat.zero_le _⟩ ?_
        refine ka_st (w1 := w3 h0 h1 h2 cA cB (zpt (i + 1) (fun j => lN (zrs P (f j))) f) g) hx hb hK hP hD hS 1 0 rfl rfl (i := i) (by omega) (by decide) dX0_reduce_26 (congrArg (fun z => w3 h0 h1 h2 cA cB z g) (zpt_up rfl)) (fun H locs hP hD hS => ?_)
        refine lv_iinc (v := nI (i + 1)) (lv' := [(4, .int (nI (i + 1))), (0, .ref h0), (1, .int (nI N)), (2, .long (lN P))]) hx hb dX0_reduce_27 hl (k := 3) rfl (nI_1 i) (by decide) rfl (fun ls hl => ?_)
        refine lv_goto (tgt := 3) hx hb dX0_reduce_30 (by decide) ?_
        exact ih (i + 1) (by omega) (by omega) H locs hP hD hS ls (lv_sub hl [1, 2, 3, 0] rfl)
  exact loop (N + 1) 0 (by omega) (by omega) _ _ (by rw [zpt_0]; exact hP) (by rw [zpt_0]; exact hD) hS ls (lv_sub hl [1, 2, 3, 0] rfl)
set_option maxHeartbeats 4000000 in
set_option maxRecDepth 100000 in
theorem m_scale (l : Launch) (dC : Nat → ClassId) (dI : Nat → Nat → Nat) (h0 h1 h2 sz : Nat) (cA cB : ClassId) (f g : Nat → Int64) (G : Nat → Nat) (N c0 P : Nat) (hN : N ≤ 1024) (hPP : P ≤ 1000000007) (hc0 : c0 < P) (hG : ∀ t, t < N → G t < P) : Met l yX0_scale wsX0_scale ({ frames := 1, cells := 0, slots := 0, locals := 25 }) (kPre (dC, dI) [(cA, .long), (cB, .long)] [.ref h0, .int (nI N), .long (lN c0), .long (lN P)] sz (w3 h0 h1 h2 cA cB (zem N G f) g)) (kQv (dC, dI) [(cA, .long), (cB, .long)] sz (w3 h0 h1 h2 cA cB (zem N G f) g) (fun w => w = w3 h0 h1 h2 cA cB (zem N (fun j => G j * c0 % P) f) g)) 0 0 (va_A (w3 h0 h1 h2 cA cB (zem N G f) g) sz) := by
  refine k_met (cc := cX0_scale) (maxL := 7) (ret := none) (by decide) rfl (Nat.le_of_ble_eq_true rfl) ?_
  intro p e s m below meth c ls hx hb hr hlocks hml hown hts hnm hK hP hD hS hA hl
  have hl : lv_has ls 7 [(0, .ref h0), (1, .int (nI N)), (2, .long (lN c0)), (4, .long (lN P))] := hl
  have inws : ∀ w ∈ u_ws RX0 TX0 2, w ∈ wsX0_scale := by decide +kernel
  refine lv_iconst (v := nI 0) hx hb dX0_scale_0 (by decide) ?_
  refine lv_istore (lv' := [(6, .int (nI 0)), (0, .ref h0), (1, .int (nI N)), (2, .long (lN c0)), (4, .long (lN P))]) hx hb dX0_scale_1 hl (by decide) rfl (fun ls hl => ?_)
  have loop : ∀ (n i : Nat), N + 1 ≤ i + n → i ≤ N → ∀ (H : Heap) (locs : List Loc), va_P (dC, dI) vwCl (w3 h0 h1 h2 cA cB (zpt i (fun j => lN (G j * c0 % P)) (zem N G f)) g) H → va_D (va_A (w3 h0 h1 h2 cA cB (zem N G f) g) sz) (w3 h0 h1 h2 cA cB (zpt i (fun j => lN (G j * c0 % P)) (zem N G f)) g) → va_S (va_A (w3 h0 h1 h2 cA cB (zem N G f) g) sz) s.heap H locs → ∀ (ls : Array Slot), lv_has ls 7 [(0, .ref h0), (1, .int (nI N)), (2, .long (lN c0)), (4, .long (lN P)), (6, .int (nI i))] → W p l e ({ frames := 1, cells := 0, slots := 0, locals := 25 } : Room) s m ([.ref h0, .int (nI N), .long (lN c0), .long (lN P)] : List Value).toArray below meth c H locs 0 0 (MQ below (kQv (dC, dI) [(cA, .long), (cB, .long)] sz (w3 h0 h1 h2 cA cB (zem N G f) g) (fun w => w = w3 h0 h1 h2 cA cB (zem N (fun j => G j * c0 % P) f) g)) ([.ref h0, .int (nI N), .long (lN c0), .long (lN P)] : List Value).toArray s 0 0 (va_A (w3 h0 h1 h2 cA cB (zem N G f) g) sz)) (F0 m 3 ls []) := by
    intro n
    induction n with
    | zero => intro i y1 y2; exact absurd y1 (by omega)
    | succ n ih =>
      intro i y1 y2 H locs hP hD hS ls hl
      refine lv_iload hx hb dX0_scale_3 (lv_at hl 4 rfl) ?_
      refine lv_iload_n hx hb dX0_scale_5 rfl (lv_at hl 1 rfl) ?_
      refine lv_icmp_ge (tgt := 35) hx hb dX0_scale_6 (by decide) (fun hc => ?_) (fun hc => ?_)
      · have hi : i = N := by have := (nI_leI (by omega) (by omega)).mp hc; omega
        subst hi
        exact kr_v hx hb hr hlocks hK hP hD hS (congrArg (fun z => w3 h0 h1 h2 cA cB z g) zpt_zem) dX0_scale_35
      · have hi : i < N := Nat.not_le.mp fun z => hc ((nI_leI (by omega) (by omega)).mpr z)
        refine lv_aload_n hx hb dX0_scale_9 rfl (lv_at hl 0 rfl) ?_
        refine va_get (D := (dC, dI)) (ci := 0) (v := .ref h1) (C := RX0) (T := TX0) (N := 2) hx hb hts inws hown hK hP 0 rfl rfl 0 (by decide) (hts (.fieldLink RX0 9 "ResidueTransforms" "row" "[J") (by decide +kernel)) (fun _ h9 => h9) rfl dX0_scale_10 ?_
        refine lv_iload hx hb dX0_scale_13 (lv_at hl 4 rfl) ?_
        refine lv_aload_n hx hb dX0_scale_15 rfl (lv_at hl 0 rfl) ?_
        refine va_get (D := (dC, dI)) (ci := 0) (v := .ref h1) (C := RX0) (T := TX0) (N := 2) hx hb hts inws hown hK hP 0 rfl rfl 0 (by decide) (hts (.fieldLink RX0 9 "ResidueTransforms" "row" "[J") (by decide +kernel)) (fun _ h9 => h9) rfl dX0_scale_16 ?_
        refine lv_iload hx hb dX0_scale_19 (lv_at hl 4 rfl) ?_
        refine ka_ld hx hb hK hP 1 0 rfl rfl (i := i) (by omega) (by decide) dX0_scale_21 ?_
        refine kt_l (v := lN (G i)) (zpt_at.trans (zem_in hi)) ?_
        refine lv_lload_n hx hb dX0_scale_22 rfl (lv_at hl 2 rfl) ?_
        refine lv_lload hx hb dX0_scale_23 (lv_at hl 3 rfl) ?_
        refine kc_lv (As := [.long (lN (G i)), .long (lN c0), .long (lN P)]) (rest := [.int (nI i), .ref h1]) ⟨hx, hb, hml, hown, hts⟩ (m_product l (G i) c0 P hPP (hG i hi) hc0) (va_cwS 3 hts gX0_scale_X0_product rfl rfl rfl (by decide +kernel) ⟨Nat.le_of_ble_eq_true rfl, Nat.le_of_ble_eq_true rfl⟩) rfl hl.1 rfl (Nat.le_of_ble_eq_true rfl) dX0_scale_25 ⟨Nat.zero_le _, Nat.zero_le _⟩ ?_
        refine ka_st (w1 := w3 h0 h1 h2 cA cB (zpt (i + 1) (fun j => lN (G j * c0 % P)) (zem N G f)) g) hx hb hK hP hD hS 1 0 rfl rfl (i := i) (by omega) (by decide) dX0_scale_28 (congrArg (fun z => w3 h0 h1 h2 cA cB z g) (zpt_up rfl)) (fun H locs hP hD hS => ?_)
        refine lv_iinc (v := nI (i + 1)) (lv' := [(6, .int (nI (i + 1))), (0, .ref h0), (1, .int (nI N)), (2, .long (lN c0)), (4, .long (lN P))]) hx hb dX0_scale_29 hl (k := 4) rfl (nI_1 i) (by decide) rfl (fun ls hl => ?_)
        refine lv_goto (tgt := 3) hx hb dX0_scale_32 (by decide) ?_
        exact ih (i + 1) (by omega) (by omega) H locs hP hD hS ls (lv_sub hl [1, 2, 3, 4, 0] rfl)
  exact loop (N + 1) 0 (by omega) (by omega) _ _ (by rw [zpt_0]; exact hP) (by rw [zpt_0]; exact hD) hS ls (lv_sub hl [1, 2, 3, 4, 0] rfl)
set_option maxHeartbeats 4000000 in
set_option maxRecDepth 100000 in
theorem m_reorder (l : Launch) (dC : Nat → ClassId) (dI : Nat → Nat → Nat) (h0 h1 h2 sz : Nat) (cA cB : ClassId) (f g : Nat → Int64) (G : Nat → Nat) (L : Nat) (hL : L ≤ 10) : Met l yX0_reorder wsX0_reorder ({ frames := 1, cells := 0, slots := 0, locals := 24 }) (kPre (dC, dI) [(cA, .long), (cB, .long)] [.ref h0, .int (nI (2 ^ L))] sz (w3 h0 h1 h2 cA cB (zem (2 ^ L) G f) g)) (kQv (dC, dI) [(cA, .long), (cB, .long)] sz (w3 h0 h1 h2 cA cB (zem (2 ^ L) G f) g) (fun w => w = w3 h0 h1 h2 cA cB (zem (2 ^ L) (zo L G (2 ^ L)) f) g)) 0 0 (va_A (w3 h0 h1 h2 cA cB (zem (2 ^ L) G f) g) sz) := by
  refine k_met (cc := cX0_reorder) (maxL := 6) (ret := none) (by decide) rfl (Nat.le_of_ble_eq_true rfl) ?_
  intro p e s m below meth c ls hx hb hr hlocks hml hown hts hnm hK hP hD hS hA hl
  have hl : lv_has ls 6 [(0, .ref h0), (1, .int (nI (2 ^ L)))] := hl
  have inws : ∀ w ∈ u_ws RX0 TX0 2, w ∈ wsX0_reorder := by decide +kernel
  refine lv_iconst (v := nI 0) hx hb dX0_reorder_0 (by decide) ?_
  refine lv_istore_n (lv' := [(2, .int (nI 0)), (0, .ref h0), (1, .int (nI (2 ^ L)))]) hx hb dX0_reorder_1 rfl hl (by decide) rfl (fun ls hl => ?_)
  have h2p := z_2pow hL
  have loop : ∀ (n i : Nat), 2 ^ L + 1 ≤ i + n → i ≤ 2 ^ L → ∀ (H : Heap) (locs : List Loc), va_P (dC, dI) vwCl (w3 h0 h1 h2 cA cB (zem (2 ^ L) (zo L G i) f) g) H → va_D (va_A (w3 h0 h1 h2 cA cB (zem (2 ^ L) G f) g) sz) (w3 h0 h1 h2 cA cB (zem (2 ^ L) (zo L G i) f) g) → va_S (va_A (w3 h0 h1 h2 cA cB (zem (2 ^ L) G f) g) sz) s.heap H locs → ∀ (ls : Array Slot), lv_has ls 6 [(0, .ref h0), (1, .int (nI (2 ^ L))), (2, .int (nI i))] → W p l e ({ frames := 1, cells := 0, slots := 0, locals := 24 } : Room) s m ([.ref h0, .int (nI (2 ^ L))] : List Value).toArray below meth c H locs 0 0 (MQ below (kQv (dC, dI) [(cA, .long), (cB, .long)] sz (w3 h0 h1 h2 cA cB (zem (2 ^ L) G f) g) (fun w => w = w3 h0 h1 h2 cA cB (zem (2 ^ L) (zo L G (2 ^ L)) f) g)) ([.ref h0, .int (nI (2 ^ L))] : List Value).toArray s 0 0 (va_A (w3 h0 h1 h2 cA cB (zem (2 ^ L) G f) g) sz)) (F0 m 2 ls []) := by
    intro n
    induction n with
    | zero => intro i y1 y2; exact absurd y1 (by omega)
    | succ n ih =>
      intro i y1 y2 H locs hP hD hS ls hl
      have hz := zr_lt L i
      refine lv_iload_n hx hb dX0_reorder_2 rfl (lv_at hl 2 rfl) ?_
      refine lv_iload_n hx hb dX0_reorder_3 rfl (lv_at hl 1 rfl) ?_
      refine lv_icmp_ge (tgt := 52) hx hb dX0_reorder_4 (by decide) (fun hc => ?_) (fun hc => ?_)
      · have hi : i = 2 ^ L := by have := (nI_leI (by omega) (by omega)).mp hc; omega
        subst hi
        exact kr_v hx hb hr hlocks hK hP hD hS rfl dX0_reorder_52
      · have hi : i < 2 ^ L := Nat.not_le.mp fun z => hc ((nI_leI (by omega) (by omega)).mpr z)
        refine lv_iload_n hx hb dX0_reorder_7 rfl (lv_at hl 2 rfl) ?_
        refine lv_iload_n hx hb dX0_reorder_8 rfl (lv_at hl 1 rfl) ?_
        refine kc_iv (As := [.int (nI i), .int (nI (2 ^ L))]) (rest := []) ⟨hx, hb, hml, hown, hts⟩ (m_mirrored l i L hL hi (by omega)) (va_cwS 2 hts gX0_reorder_X0_mirrored rfl rfl rfl (by decide +kernel) ⟨Nat.le_of_ble_eq_true rfl, Nat.le_of_ble_eq_true rfl⟩) rfl hl.1 rfl (Nat.le_of_ble_eq_true rfl) dX0_reorder_9 ⟨Nat.zero_le _, Nat.zero_le _⟩ ?_
        refine lv_istore_n (lv' := [(3, .int (nI (zr L i))), (0, .ref h0), (1, .int (nI (2 ^ L))), (2, .int (nI i))]) hx hb dX0_reorder_12 rfl hl (by decide) rfl (fun ls hl => ?_)
        refine lv_iload_n hx hb dX0_reorder_13 rfl (lv_at hl 3 rfl) ?_
        refine lv_iload_n hx hb dX0_reorder_14 rfl (lv_at hl 0 rfl) ?_
        refine lv_icmp_ge (tgt := 46) hx hb dX0_reorder_15 (by decide) (fun hc2 => ?_) (fun hc2 => ?_)
        · have hle : ¬ i < zr L i := by have := (nI_leI (by omega) (by omega)).mp hc2; omega
          have e : zo L G (i + 1) = zo L G i := if_neg hle
          refine lv_iinc (v := nI (i + 1)) (lv' := [(2, .int (nI (i + 1))), (3, .int (nI (zr L i))), (0, .ref h0), (1, .int (nI (2 ^ L)))]) hx hb dX0_reorder_46 hl (k := 3) rfl (nI_1 i) (by decide) rfl (fun ls hl => ?_)
          refine lv_goto (tgt := 2) hx hb dX0_reorder_49 (by decide) ?_
          exact ih (i + 1) (by omega) (by omega) H locs (by rw [e]; exact hP) (by rw [e]; exact hD) hS ls (lv_sub hl [2, 3, 0] rfl)
        · have hlt : i < zr L i := Nat.not_le.mp fun z => hc2 ((nI_leI (by omega) (by omega)).mpr z)
          refine lv_aload_n hx hb dX0_reorder_18 rfl (lv_at hl 1 rfl) ?_
          refine va_get (D := (dC, dI)) (ci := 0) (v := .ref h1) (C := RX0) (T := TX0) (N := 2) hx hb hts inws hown hK hP 0 rfl rfl 0 (by decide) (hts (.fieldLink RX0 9 "ResidueTransforms" "row" "[J") (by decide +kernel)) (fun _ h9 => h9) rfl dX0_reorder_19 ?_
          refine lv_iload_n hx hb dX0_reorder_22 rfl (lv_at hl 3 rfl) ?_
          refine ka_ld hx hb hK hP 1 0 rfl rfl (i := i) (by omega) (by decide) dX0_reorder_23 ?_
          refine kt_l (v := lN (zo L G i i)) (zem_in (by omega)) ?_
          refine lv_lstore (lv' := [(4, .long (lN (zo L G i i))), (3, .int (nI (zr L i))), (0, .ref h0), (1, .int (nI (2 ^ L))), (2, .int (nI i))]) hx hb dX0_reorder_24 hl (by decide) rfl (fun ls hl => ?_)
          refine lv_aload_n hx hb dX0_reorder_26 rfl (lv_at hl 2 rfl) ?_
          refine va_get (D := (dC, dI)) (ci := 0) (v := .ref h1) (C := RX0) (T := TX0) (N := 2) hx hb hts inws hown hK hP 0 rfl rfl 0 (by decide) (hts (.fieldLink RX0 9 "ResidueTransforms" "row" "[J") (by decide +kernel)) (fun _ h9 => h9) rfl dX0_reorder_27 ?_
          refine lv_iload_n hx hb dX0_reorder_30 rfl (lv_at hl 4 rfl) ?_
          refine lv_aload_n hx hb dX0_reorder_31 rfl (lv_at hl 2 rfl) ?_
          refine va_get (D := (dC, dI)) (ci := 0) (v := .ref h1) (C := RX0) (T := TX0) (N := 2) hx hb hts inws hown hK hP 0 rfl rfl 0 (by decide) (hts (.fieldLink RX0 9 "ResidueTransforms" "row" "[J") (by decide +kernel)) (fun _ h9 => h9) rfl dX0_reorder_32 ?_
          refine lv_iload_n hx hb dX0_reorder_35 rfl (lv_at hl 1 rfl) ?_
          refine ka_ld hx hb hK hP 1 0 rfl rfl (i := zr L i) (by omega) (by decide) dX0_reorder_36 ?_
          refine kt_l (v := lN (zo L G i (zr L i))) (zem_in hz) ?_
          refine ka_st (w1 := w3 h0 h1 h2 cA cB (zem (2 ^ L) (zu (zo L G i) i (zo L G i (zr L i))) f) g) hx hb hK hP hD hS 1 0 rfl rfl (i := i) (by omega) (by decide) dX0_reorder_37 (congrArg (fun z => w3 h0 h1 h2 cA cB z g) (zem_up hi)) (fun H locs hP hD hS => ?_)
          refine lv_aload_n hx hb dX0_reorder_38 rfl (lv_at hl 2 rfl) ?_
          refine va_get (D := (dC, dI)) (ci := 0) (v := .ref h1) (C := RX0) (T := TX0) (N := 2) hx hb hts inws hown hK hP 0 rfl rfl 0 (by decide) (hts (.fieldLink RX0 9 "ResidueTransforms" "row" "[J") (by decide +kernel)) (fun _ h9 => h9) rfl dX0_reorder_39 ?_
          refine lv_iload_n hx hb dX0_reorder_42 rfl (lv_at hl 1 rfl) ?_
          refine lv_lload hx hb dX0_reorder_43 (lv_at hl 0 rfl) ?_
          refine ka_st (w1 := w3 h0 h1 h2 cA cB (zem (2 ^ L) (zo L G (i + 1)) f) g) hx hb hK hP hD hS 1 0 rfl rfl (i := zr L i) (by omega) (by decide) dX0_reorder_45 (congrArg (fun z => w3 h0 h1 h2 cA cB z g) ((zem_up hz).trans (congrArg (fun z => zem (2 ^ L) z f) (if_pos hlt).symm))) (fun H locs hP hD hS => ?_)
          refine lv_iinc (v := nI (i + 1)) (lv' := [(2, .int (nI (i + 1))), (4, .long (lN (zo L G i i))), (3, .int (nI (zr L i))), (0, .ref h0), (1, .int (nI (2 ^ L)))]) hx hb dX0_reorder_46 hl (k := 4) rfl (nI_1 i) (by decide) rfl (fun ls hl => ?_)
          refine lv_goto (tgt := 2) hx hb dX0_reorder_49 (by decide) ?_
          exact ih (i + 1) (by omega) (by omega) H locs hP hD hS ls (lv_sub hl [3, 4, 0] rfl)
  exact loop (2 ^ L + 1) 0 (by omega) (by omega) _ _ hP hD hS ls (lv_sub hl [1, 2, 0] rfl)
set_option maxHeartbeats 4000000 in
set_option maxRecDepth 100000 in
theorem m_joinPairs (l : Launch) (dC : Nat → ClassId) (dI : Nat → Nat → Nat) (h0 h1 h2 sz : Nat) (cA cB : ClassId) (f g : Nat → Int64) (G : Nat → Nat) (N h j fac P B : Nat) (hN : N ≤ 1024) (hNB : N = B * (2 * h)) (hj : j < h) (hh : h ≤ 1024) (hPP : P ≤ 1000000007) (hfac : fac < P) (hG : ∀ t, t < N → G t < P) : Met l yX0_joinPairs wsX0_joinPairs ({ frames := 1, cells := 0, slots := 0, locals := 25 }) (kPre (dC, dI) [(cA, .long), (cB, .long)] [.ref h0, .int (nI N), .int (nI h), .int (nI j), .long (lN fac), .long (lN P)] sz (w3 h0 h1 h2 cA cB (zem N G f) g)) (kQv (dC, dI) [(cA, .long), (cB, .long)] sz (w3 h0 h1 h2 cA cB (zem N G f) g) (fun w => w = w3 h0 h1 h2 cA cB (zem N (zps P h fac j G B) f) g)) 0 0 (va_A (w3 h0 h1 h2 cA cB (zem N G f) g) sz) := by
  refine k_met (cc := cX0_joinPairs) (maxL := 13) (ret := none) (by decide) rfl (Nat.le_of_ble_eq_true rfl) ?_
  intro p e s m below meth c ls hx hb hr hlocks hml hown hts hnm hK hP hD hS hA hl
  have hl : lv_has ls 13 [(0, .ref h0), (1, .int (nI N)), (2, .int (nI h)), (3, .int (nI j)), (4, .long (lN fac)), (6, .long (lN P))] := hl
  have inws : ∀ w ∈ u_ws RX0 TX0 2, w ∈ wsX0_joinPairs := by decide +kernel
  refine lv_iload_n hx hb dX0_joinPairs_0 rfl (lv_at hl 3 rfl) ?_
  refine lv_istore (lv' := [(8, .int (nI j)), (0, .ref h0), (1, .int (nI N)), (2, .int (nI h)), (3, .int (nI j)), (4, .long (lN fac)), (6, .long (lN P))]) hx hb dX0_joinPairs_1 hl (by decide) rfl (fun ls hl => ?_)
  have loop : ∀ (n b : Nat), B + 1 ≤ b + n → b ≤ B → ∀ (H : Heap) (locs : List Loc), va_P (dC, dI) vwCl (w3 h0 h1 h2 cA cB (zem N (zps P h fac j G b) f) g) H → va_D (va_A (w3 h0 h1 h2 cA cB (zem N G f) g) sz) (w3 h0 h1 h2 cA cB (zem N (zps P h fac j G b) f) g) → va_S (va_A (w3 h0 h1 h2 cA cB (zem N G f) g) sz) s.heap H locs → ∀ (ls : Array Slot), lv_has ls 13 [(0, .ref h0), (1, .int (nI N)), (2, .int (nI h)), (3, .int (nI j)), (4, .long (lN fac)), (6, .long (lN P)), (8, .int (nI (b * (2 * h) + j)))] → W p l e ({ frames := 1, cells := 0, slots := 0, locals := 25 } : Room) s m ([.ref h0, .int (nI N), .int (nI h), .int (nI j), .long (lN fac), .long (lN P)] : List Value).toArray below meth c H locs 0 0 (MQ below (kQv (dC, dI) [(cA, .long), (cB, .long)] sz (w3 h0 h1 h2 cA cB (zem N G f) g) (fun w => w = w3 h0 h1 h2 cA cB (zem N (zps P h fac j G B) f) g)) ([.ref h0, .int (nI N), .int (nI h), .int (nI j), .long (lN fac), .long (lN P)] : List Value).toArray s 0 0 (va_A (w3 h0 h1 h2 cA cB (zem N G f) g) sz)) (F0 m 3 ls []) := by
    intro n
    induction n with
    | zero => intro b y1 y2; exact absurd y1 (by omega)
    | succ n ih =>
      intro b y1 y2 H locs hP hD hS ls hl
      have hbB : b * (2 * h) ≤ B * (2 * h) := Nat.mul_le_mul_right _ y2
      refine lv_iload hx hb dX0_joinPairs_3 (lv_at hl 6 rfl) ?_
      refine lv_iload_n hx hb dX0_joinPairs_5 rfl (lv_at hl 2 rfl) ?_
      refine lv_iadd hx hb dX0_joinPairs_6 ?_
      refine kt_i (v := nI (b * (2 * h) + j + h)) (nI_add _ _) ?_
      refine lv_iload_n hx hb dX0_joinPairs_7 rfl (lv_at hl 1 rfl) ?_
      refine lv_icmp_ge (tgt := 84) hx hb dX0_joinPairs_8 (by decide) (fun hc => ?_) (fun hc => ?_)
      · have hle : N ≤ b * (2 * h) + j + h := (nI_leI (by omega) (by omega)).mp hc
        have hb2 : b = B := by
          rcases Nat.lt_or_ge b B with z | z
          · have := z_ml (2 * h) z; omega
          · omega
        subst hb2
        exact kr_v hx hb hr hlocks hK hP hD hS rfl dX0_joinPairs_84
      · have hlt : b * (2 * h) + j + h < N := Nat.not_le.mp fun z => hc ((nI_leI (by omega) (by omega)).mpr z)
        have hb2 : b < B := by
          rcases Nat.lt_or_ge b B with z | z
          · exact z
          · have : b = B := by omega
            subst this; omega
        have hz1 := zps_lt (P := P) (h := h) (fac := fac) (j := j) (by omega) hG b (b * (2 * h) + j) (by omega)
        have hz2 := zps_lt (P := P) (h := h) (fac := fac) (j := j) (by omega) hG b (b * (2 * h) + j + h) hlt
        have hz3 := Nat.mod_lt (zps P h fac j G b (b * (2 * h) + j + h) * fac) (show 0 < P by omega)
        refine lv_aload_n hx hb dX0_joinPairs_11 rfl (lv_at hl 0 rfl) ?_
        refine va_get (D := (dC, dI)) (ci := 0) (v := .ref h1) (C := RX0) (T := TX0) (N := 2) hx hb hts inws hown hK hP 0 rfl rfl 0 (by decide) (hts (.fieldLink RX0 9 "ResidueTransforms" "row" "[J") (by decide +kernel)) (fun _ h9 => h9) rfl dX0_joinPairs_12 ?_
        refine lv_iload hx hb dX0_joinPairs_15 (lv_at hl 6 rfl) ?_
        refine ka_ld hx hb hK hP 1 0 rfl rfl (i := b * (2 * h) + j) (by omega) (by decide) dX0_joinPairs_17 ?_
        refine kt_l (v := lN (zps P h fac j G b (b * (2 * h) + j))) (zem_in (by omega)) ?_
        refine lv_lstore (lv' := [(9, .long (lN (zps P h fac j G b (b * (2 * h) + j)))), (0, .ref h0), (1, .int (nI N)), (2, .int (nI h)), (3, .int (nI j)), (4, .long (lN fac)), (6, .long (lN P)), (8, .int (nI (b * (2 * h) + j)))]) hx hb dX0_joinPairs_18 hl (by decide) rfl (fun ls hl => ?_)
        refine lv_aload_n hx hb dX0_joinPairs_20 rfl (lv_at hl 1 rfl) ?_
        refine va_get (D := (dC, dI)) (ci := 0) (v := .ref h1) (C := RX0) (T := TX0) (N := 2) hx hb hts inws hown hK hP 0 rfl rfl 0 (by decide) (hts (.fieldLink RX0 9 "ResidueTransforms" "row" "[J") (by decide +kernel)) (fun _ h9 => h9) rfl dX0_joinPairs_21 ?_
        refine lv_iload hx hb dX0_joinPairs_24 (lv_at hl 7 rfl) ?_
        refine lv_iload_n hx hb dX0_joinPairs_26 rfl (lv_at hl 3 rfl) ?_
        refine lv_iadd hx hb dX0_joinPairs_27 ?_
        refine kt_i (v := nI (b * (2 * h) + j + h)) (nI_add _ _) ?_
        refine ka_ld hx hb hK hP 1 0 rfl rfl (i := b * (2 * h) + j + h) (by omega) (by decide) dX0_joinPairs_28 ?_
        refine kt_l (v := lN (zps P h fac j G b (b * (2 * h) + j + h))) (zem_in (by omega)) ?_
        refine lv_lload hx hb dX0_joinPairs_29 (lv_at hl 5 rfl) ?_
        refine lv_lload hx hb dX0_joinPairs_31 (lv_at hl 6 rfl) ?_
        refine kc_lv (As := [.long (lN (zps P h fac j G b (b * (2 * h) + j + h))), .long (lN fac), .long (lN P)]) (rest := []) ⟨hx, hb, hml, hown, hts⟩ (m_product l _ fac P hPP hz2 hfac) (va_cwS 3 hts gX0_joinPairs_X0_product rfl rfl rfl (by decide +kernel) ⟨Nat.le_of_ble_eq_true rfl, Nat.le_of_ble_eq_true rfl⟩) rfl hl.1 rfl (Nat.le_of_ble_eq_true rfl) dX0_joinPairs_33 ⟨Nat.zero_le _, Nat.zero_le _⟩ ?_
        refine lv_lstore (lv' := [(11, .long (lN (zps P h fac j G b (b * (2 * h) + j + h) * fac % P))), (9, .long (lN (zps P h fac j G b (b * (2 * h) + j)))), (0, .ref h0), (1, .int (nI N)), (2, .int (nI h)), (3, .int (nI j)), (4, .long (lN fac)), (6, .long (lN P)), (8, .int (nI (b * (2 * h) + j)))]) hx hb dX0_joinPairs_36 hl (by decide) rfl (fun ls hl => ?_)
        refine lv_aload_n hx hb dX0_joinPairs_38 rfl (lv_at hl 2 rfl) ?_
        refine va_get (D := (dC, dI)) (ci := 0) (v := .ref h1) (C := RX0) (T := TX0) (N := 2) hx hb hts inws hown hK hP 0 rfl rfl 0 (by decide) (hts (.fieldLink RX0 9 "ResidueTransforms" "row" "[J") (by decide +kernel)) (fun _ h9 => h9) rfl dX0_joinPairs_39 ?_
        refine lv_iload hx hb dX0_joinPairs_42 (lv_at hl 8 rfl) ?_
        refine lv_lload hx hb dX0_joinPairs_44 (lv_at hl 1 rfl) ?_
        refine lv_lload hx hb dX0_joinPairs_46 (lv_at hl 0 rfl) ?_
        refine lv_ladd hx hb dX0_joinPairs_48 ?_
        refine kt_l (v := lN (zps P h fac j G b (b * (2 * h) + j) + zps P h fac j G b (b * (2 * h) + j + h) * fac % P)) (lN_add _ _) ?_
        refine lv_lload hx hb dX0_joinPairs_49 (lv_at hl 7 rfl) ?_
        refine lv_lrem hx hb dX0_joinPairs_51 (zl_ne (by omega) (by omega)) ?_
        refine kt_l (v := lN ((zps P h fac j G b (b * (2 * h) + j) + zps P h fac j G b (b * (2 * h) + j + h) * fac % P) % P)) (pk_lRem (by omega) (by omega) (by omega)) ?_
        refine ka_st (w1 := w3 h0 h1 h2 cA cB (zem N (zu (zps P h fac j G b) (b * (2 * h) + j) ((zps P h fac j G b (b * (2 * h) + j) + zps P h fac j G b (b * (2 * h) + j + h) * fac % P) % P)) f) g) hx hb hK hP hD hS 1 0 rfl rfl (i := b * (2 * h) + j) (by omega) (by decide) dX0_joinPairs_52 (congrArg (fun z => w3 h0 h1 h2 cA cB z g) (zem_up (by omega))) (fun H locs hP hD hS => ?_)
        refine lv_aload_n hx hb dX0_joinPairs_53 rfl (lv_at hl 2 rfl) ?_
        refine va_get (D := (dC, dI)) (ci := 0) (v := .ref h1) (C := RX0) (T := TX0) (N := 2) hx hb hts inws hown hK hP 0 rfl rfl 0 (by decide) (hts (.fieldLink RX0 9 "ResidueTransforms" "row" "[J") (by decide +kernel)) (fun _ h9 => h9) rfl dX0_joinPairs_54 ?_
        refine lv_iload hx hb dX0_joinPairs_57 (lv_at hl 8 rfl) ?_
        refine lv_iload_n hx hb dX0_joinPairs_59 rfl (lv_at hl 4 rfl) ?_
        refine lv_iadd hx hb dX0_joinPairs_60 ?_
        refine kt_i (v := nI (b * (2 * h) + j + h)) (nI_add _ _) ?_
        refine lv_lload hx hb dX0_joinPairs_61 (lv_at hl 1 rfl) ?_
        refine lv_lload hx hb dX0_joinPairs_63 (lv_at hl 0 rfl) ?_
        refine lv_lsub hx hb dX0_joinPairs_65 ?_
        refine lv_lload hx hb dX0_joinPairs_66 (lv_at hl 7 rfl) ?_
        refine lv_ladd hx hb dX0_joinPairs_68 ?_
        refine kt_l (v := lN (zps P h fac j G b (b * (2 * h) + j) + P - zps P h fac j G b (b * (2 * h) + j + h) * fac % P)) (zl_spm (by omega)) ?_
        refine lv_lload hx hb dX0_joinPairs_69 (lv_at hl 7 rfl) ?_
        refine lv_lrem hx hb dX0_joinPairs_71 (zl_ne (by omega) (by omega)) ?_
        refine kt_l (v := lN ((zps P h fac j G b (b * (2 * h) + j) + P - zps P h fac j G b (b * (2 * h) + j + h) * fac % P) % P)) (pk_lRem (by omega) (by omega) (by omega)) ?_
        refine ka_st (w1 := w3 h0 h1 h2 cA cB (zem N (zps P h fac j G (b + 1)) f) g) hx hb hK hP hD hS 1 0 rfl rfl (i := b * (2 * h) + j + h) (by omega) (by decide) dX0_joinPairs_72 (congrArg (fun z => w3 h0 h1 h2 cA cB z g) ((zem_up (by omega)).trans rfl)) (fun H locs hP hD hS => ?_)
        refine lv_iload hx hb dX0_joinPairs_73 (lv_at hl 8 rfl) ?_
        refine lv_iconst (v := nI 2) hx hb dX0_joinPairs_75 (by decide) ?_
        refine lv_iload_n hx hb dX0_joinPairs_76 rfl (lv_at hl 4 rfl) ?_
        refine lv_imul hx hb dX0_joinPairs_77 ?_
        refine kt_i (v := nI (2 * h)) (pk_mul 2 h) ?_
        refine lv_iadd hx hb dX0_joinPairs_78 ?_
        refine kt_i (v := nI ((b + 1) * (2 * h) + j)) ((nI_add _ _).trans (congrArg nI (by rw [Nat.add_mul, Nat.one_mul]; omega))) ?_
        refine lv_istore (lv' := [(8, .int (nI ((b + 1) * (2 * h) + j))), (11, .long (lN (zps P h fac j G b (b * (2 * h) + j + h) * fac % P))), (9, .long (lN (zps P h fac j G b (b * (2 * h) + j)))), (0, .ref h0), (1, .int (nI N)), (2, .int (nI h)), (3, .int (nI j)), (4, .long (lN fac)), (6, .long (lN P))]) hx hb dX0_joinPairs_79 hl (by decide) rfl (fun ls hl => ?_)
        refine lv_goto (tgt := 3) hx hb dX0_joinPairs_81 (by decide) ?_
        exact ih (b + 1) (by omega) (by omega) H locs hP hD hS ls (lv_sub hl [3, 4, 5, 6, 7, 8, 0] rfl)
  refine loop (B + 1) 0 (by omega) (by omega) _ _ hP hD hS ls ?_
  rw [Nat.zero_mul, Nat.zero_add]
  exact (lv_sub hl [1, 2, 3, 4, 5, 6, 0] rfl)
