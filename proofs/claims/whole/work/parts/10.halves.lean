/-! joinHalves and the public methods of the class -/
/-- what transform makes of a row -/
def zT (L P w : Nat) (q : Int32) (f : Nat → Int64) : Nat → Int64 :=
  if q = 0 then zem (2 ^ L) (fun k => zm P (w ^ k % P) (fun j => zrs P (f j)) (2 ^ L) * 1 % P) f
  else zem (2 ^ L) (fun k => zm P ((w ^ (P - 2) % P) ^ k % P) (fun j => zrs P (f j)) (2 ^ L) * ((2 ^ L) ^ (P - 2) % P) % P) f
theorem z_odd_pr {P : Nat} (h3 : 3 ≤ P) (h : ztd P) : P % 2 = 1 := by
  rcases Nat.mod_two_eq_zero_or_one P with z | z
  · exact absurd (Nat.dvd_of_mod_eq_zero z) (h 2 (by omega) (by omega))
  · exact z
theorem zW_all {L P : Nat} (h3 : 3 ≤ P) (h : ztd P) (hd : 2 ^ L ∣ P - 1) : ∃ w, zW (2 ^ L) P w := by
  cases L with
  | zero => exact ⟨1, Or.inl ⟨rfl, rfl⟩⟩
  | succ L =>
    rw [Nat.pow_succ'] at hd ⊢
    exact zW_ex (ztd_pr (by omega) h) h3 hd (Nat.two_pow_pos L)
theorem zW_h2 {L P w : Nat} (h : zW (2 ^ L) P w) : L ≠ 0 → w ^ (2 ^ L / 2) % P = P - 1 := by
  intro hL
  refine zW_half ?_ h
  obtain ⟨k, rfl⟩ : ∃ k, L = k + 1 := ⟨L - 1, by omega⟩
  rw [Nat.pow_succ]
  have := Nat.two_pow_pos k
  omega
theorem z_dvd_lt {L P : Nat} (h3 : 3 ≤ P) (hd : 2 ^ L ∣ P - 1) : 2 ^ L < P := by
  have := Nat.le_of_dvd (by omega) hd
  omega
theorem zT_fwd {L P w : Nat} {f : Nat → Int64} (h3 : 3 ≤ P) (hW : zW (2 ^ L) P w) : zem (2 ^ L) (zft P (2 ^ L) w (zo L (fun j => zrs P (f j)) (2 ^ L)) L) f = zT L P w 0 f := by
  unfold zT
  rw [if_pos rfl]
  refine zem_ex fun k hk => ?_
  rw [z_meet (by omega) (z_half h3 (zW_h2 hW)) (fun j _ => zrs_lt (by omega) _) hk, Nat.mul_one, Nat.mod_eq_of_lt (zm_lt (by omega) _)]
theorem zT_back {L P w : Nat} {f : Nat → Int64} {q : Int32} (hq : ¬ q = 0) (h3 : 3 ≤ P) (h : ztd P) (hW : zW (2 ^ L) P w) : zem (2 ^ L) (fun j => zft P (2 ^ L) (w ^ (P - 2) % P) (zo L (fun j => zrs P (f j)) (2 ^ L)) L j * ((2 ^ L) ^ (P - 2) % P) % P) f = zT L P w q f := by
  unfold zT
  rw [if_neg hq]
  refine zem_ex fun k hk => ?_
  rw [z_meet (by omega) (z_inv_half h3 (z_odd_pr h3 h) (zW_h2 hW)) (fun j _ => zrs_lt (by omega) _) hk]
set_option maxHeartbeats 4000000 in
set_option maxRecDepth 100000 in
theorem m_joinHalves (l : Launch) (dC : Nat → ClassId) (dI : Nat → Nat → Nat) (h0 h1 h2 sz : Nat) (cA cB : ClassId) (f g : Nat → Int64) (G : Nat → Nat) (L w0 P : Nat) (hL : L ≤ 10) (hPP : P ≤ 1000000007) (hP3 : 3 ≤ P) (hw0 : w0 < P) (hG : ∀ t, t < 2 ^ L → G t < P) : Met l yX0_joinHalves wsX0_joinHalves ({ frames := 2, cells := 0, slots := 0, locals := 57 }) (kPre (dC, dI) [(cA, .long), (cB, .long)] [.ref h0, .int (nI (2 ^ L)), .long (lN w0), .int (nI P)] sz (w3 h0 h1 h2 cA cB (zem (2 ^ L) G f) g)) (kQv (dC, dI) [(cA, .long), (cB, .long)] sz (w3 h0 h1 h2 cA cB (zem (2 ^ L) G f) g) (fun w => w = w3 h0 h1 h2 cA cB (zem (2 ^ L) (zft P (2 ^ L) w0 G L) f) g)) 0 0 (va_A (w3 h0 h1 h2 cA cB (zem (2 ^ L) G f) g) sz) := by
  refine k_met (cc := cX0_joinHalves) (maxL := 11) (ret := none) (by decide) rfl (Nat.le_of_ble_eq_true rfl) ?_
  intro p e s m below meth c ls hx hb hr hlocks hml hown hts hnm hK hP hD hS hA hl
  have hl : lv_has ls 11 [(0, .ref h0), (1, .int (nI (2 ^ L))), (2, .long (lN w0)), (4, .int (nI P))] := hl
  have inws : ∀ w ∈ u_ws RX0 TX0 2, w ∈ wsX0_joinHalves := by decide +kernel
  refine lv_iconst (v := nI (2 ^ 0)) hx hb dX0_joinHalves_0 (by decide) ?_
  refine lv_istore (lv' := [(5, .int (nI (2 ^ 0))), (0, .ref h0), (1, .int (nI (2 ^ L))), (2, .long (lN w0)), (4, .int (nI P))]) hx hb dX0_joinHalves_1 hl (by decide) rfl (fun ls hl => ?_)
  have h2p := z_2pow hL
  have loop : ∀ (n t : Nat), L + 1 ≤ t + n → t ≤ L → ∀ (H : Heap) (locs : List Loc), va_P (dC, dI) vwCl (w3 h0 h1 h2 cA cB (zem (2 ^ L) (zft P (2 ^ L) w0 G t) f) g) H → va_D (va_A (w3 h0 h1 h2 cA cB (zem (2 ^ L) G f) g) sz) (w3 h0 h1 h2 cA cB (zem (2 ^ L) (zft P (2 ^ L) w0 G t) f) g) → va_S (va_A (w3 h0 h1 h2 cA cB (zem (2 ^ L) G f) g) sz) s.heap H locs → ∀ (ls : Array Slot), lv_has ls 11 [(0, .ref h0), (1, .int (nI (2 ^ L))), (2, .long (lN w0)), (4, .int (nI P)), (5, .int (nI (2 ^ t)))] → W p l e ({ frames := 2, cells := 0, slots := 0, locals := 57 } : Room) s m ([.ref h0, .int (nI (2 ^ L)), .long (lN w0), .int (nI P)] : List Value).toArray below meth c H locs 0 0 (MQ below (kQv (dC, dI) [(cA, .long), (cB, .long)] sz (w3 h0 h1 h2 cA cB (zem (2 ^ L) G f) g) (fun w => w = w3 h0 h1 h2 cA cB (zem (2 ^ L) (zft P (2 ^ L) w0 G L) f) g)) ([.ref h0, .int (nI (2 ^ L)), .long (lN w0), .int (nI P)] : List Value).toArray s 0 0 (va_A (w3 h0 h1 h2 cA cB (zem (2 ^ L) G f) g) sz)) (F0 m 3 ls []) := by
    intro n
    induction n with
    | zero => intro t y1 y2; exact absurd y1 (by omega)
    | succ n ih =>
      intro t y1 y2 H locs hP hD hS ls hl
      have t1 := z_2pow (show t ≤ 10 by omega)
      refine lv_iload hx hb dX0_joinHalves_3 (lv_at hl 4 rfl) ?_
      refine lv_iload_n hx hb dX0_joinHalves_5 rfl (lv_at hl 1 rfl) ?_
      refine lv_icmp_ge (tgt := 78) hx hb dX0_joinHalves_6 (by decide) (fun hc => ?_) (fun hc => ?_)
      · have hle : 2 ^ L ≤ 2 ^ t := (nI_leI (by omega) (by omega)).mp hc
        have ht : t = L := by
          rcases Nat.lt_or_ge t L with z | z
          · exact absurd (Nat.pow_lt_pow_right (a := 2) (by omega) z) (by omega)
          · omega
        subst ht
        exact kr_v hx hb hr hlocks hK hP hD hS rfl dX0_joinHalves_78
      · have hlt : t < L := by
          rcases Nat.lt_or_ge t L with z | z
          · exact z
          · exact absurd ((nI_leI (by omega) (by omega)).mpr (Nat.pow_le_pow_right (by omega) z)) hc
        have hB : 2 ^ L = (2 ^ L / (2 * 2 ^ t)) * (2 * 2 ^ t) := by
          rw [← Nat.pow_succ', Nat.div_mul_cancel (Nat.pow_dvd_pow 2 hlt)]
        have hB2 := Nat.div_le_self (2 ^ L) (2 * 2 ^ t)
        have hst := Nat.mod_lt (w0 ^ (2 ^ L / (2 * 2 ^ t))) (show 0 < P by omega)
        refine lv_lload_n hx hb dX0_joinHalves_9 rfl (lv_at hl 2 rfl) ?_
        refine lv_iload_n hx hb dX0_joinHalves_10 rfl (lv_at hl 1 rfl) ?_
        refine lv_iconst (v := nI 2) hx hb dX0_joinHalves_11 (by decide) ?_
        refine lv_iload hx hb dX0_joinHalves_12 (lv_at hl 4 rfl) ?_
        refine lv_imul hx hb dX0_joinHalves_14 ?_
        refine kt_i (v := nI (2 * 2 ^ t)) (pk_mul 2 _) ?_
        refine lv_idiv hx hb dX0_joinHalves_15 (nI_ne0 (by omega) (by omega)) ?_
        refine kt_i (v := nI (2 ^ L / (2 * 2 ^ t))) (pk_div (by omega) (by omega) (by omega)) ?_
        refine lv_iload hx hb dX0_joinHalves_16 (lv_at hl 3 rfl) ?_
        refine lv_i2l (v := lN P) hx hb dX0_joinHalves_18 (nI_l (by omega)) ?_
        refine kc_lv (As := [.long (lN w0), .int (nI (2 ^ L / (2 * 2 ^ t))), .long (lN P)]) (rest := []) ⟨hx, hb, hml, hown, hts⟩ (m_power l w0 (2 ^ L / (2 * 2 ^ t)) P hPP hw0 (by omega) (by omega)) (va_cwS 3 hts gX0_joinHalves_X0_power rfl rfl rfl (by decide +kernel) ⟨Nat.le_of_ble_eq_true rfl, Nat.le_of_ble_eq_true rfl⟩) rfl hl.1 rfl (Nat.le_of_ble_eq_true rfl) dX0_joinHalves_19 ⟨Nat.zero_le _, Nat.zero_le _⟩ ?_
        refine lv_lstore (lv' := [(6, .long (lN (w0 ^ (2 ^ L / (2 * 2 ^ t)) % P))), (0, .ref h0), (1, .int (nI (2 ^ L))), (2, .long (lN w0)), (4, .int (nI P)), (5, .int (nI (2 ^ t)))]) hx hb dX0_joinHalves_22 hl (by decide) rfl (fun ls hl => ?_)
        have e1 : lN 1 = lN ((w0 ^ (2 ^ L / (2 * 2 ^ t)) % P) ^ 0 % P) := by rw [Nat.pow_zero, Nat.mod_eq_of_lt (by omega)]
        refine lv_lconst (v := lN 1) hx hb dX0_joinHalves_24 (by decide) ?_
        refine kt_l e1 ?_
        refine lv_lstore (lv' := [(8, .long (lN ((w0 ^ (2 ^ L / (2 * 2 ^ t)) % P) ^ 0 % P))), (6, .long (lN (w0 ^ (2 ^ L / (2 * 2 ^ t)) % P))), (0, .ref h0), (1, .int (nI (2 ^ L))), (2, .long (lN w0)), (4, .int (nI P)), (5, .int (nI (2 ^ t)))]) hx hb dX0_joinHalves_25 hl (by decide) rfl (fun ls hl => ?_)
        refine lv_iconst (v := nI 0) hx hb dX0_joinHalves_27 (by decide) ?_
        refine lv_istore (lv' := [(10, .int (nI 0)), (8, .long (lN ((w0 ^ (2 ^ L / (2 * 2 ^ t)) % P) ^ 0 % P))), (6, .long (lN (w0 ^ (2 ^ L / (2 * 2 ^ t)) % P))), (0, .ref h0), (1, .int (nI (2 ^ L))), (2, .long (lN w0)), (4, .int (nI P)), (5, .int (nI (2 ^ t)))]) hx hb dX0_joinHalves_28 hl (by decide) rfl (fun ls hl => ?_)
        have inner : ∀ (n2 j : Nat), 2 ^ t + 1 ≤ j + n2 → j ≤ 2 ^ t → ∀ (H : Heap) (locs : List Loc), va_P (dC, dI) vwCl (w3 h0 h1 h2 cA cB (zem (2 ^ L) (zlv P (2 ^ t) (w0 ^ (2 ^ L / (2 * 2 ^ t)) % P) (2 ^ L / (2 * 2 ^ t)) (zft P (2 ^ L) w0 G t) j) f) g) H → va_D (va_A (w3 h0 h1 h2 cA cB (zem (2 ^ L) G f) g) sz) (w3 h0 h1 h2 cA cB (zem (2 ^ L) (zlv P (2 ^ t) (w0 ^ (2 ^ L / (2 * 2 ^ t)) % P) (2 ^ L / (2 * 2 ^ t)) (zft P (2 ^ L) w0 G t) j) f) g) → va_S (va_A (w3 h0 h1 h2 cA cB (zem (2 ^ L) G f) g) sz) s.heap H locs → ∀ (ls : Array Slot), lv_has ls 11 [(0, .ref h0), (1, .int (nI (2 ^ L))), (2, .long (lN w0)), (4, .int (nI P)), (5, .int (nI (2 ^ t))), (6, .long (lN (w0 ^ (2 ^ L / (2 * 2 ^ t)) % P))), (8, .long (lN ((w0 ^ (2 ^ L / (2 * 2 ^ t)) % P) ^ j % P))), (10, .int (nI j))] → W p l e ({ frames := 2, cells := 0, slots := 0, locals := 57 } : Room) s m ([.ref h0, .int (nI (2 ^ L)), .long (lN w0), .int (nI P)] : List Value).toArray below meth c H locs 0 0 (MQ below (kQv (dC, dI) [(cA, .long), (cB, .long)] sz (w3 h0 h1 h2 cA cB (zem (2 ^ L) G f) g) (fun w => w = w3 h0 h1 h2 cA cB (zem (2 ^ L) (zft P (2 ^ L) w0 G L) f) g)) ([.ref h0, .int (nI (2 ^ L)), .long (lN w0), .int (nI P)] : List Value).toArray s 0 0 (va_A (w3 h0 h1 h2 cA cB (zem (2 ^ L) G f) g) sz)) (F0 m 30 ls []) := by
          intro n2
          induction n2 with
          | zero => intro j y3 y4; exact absurd y3 (by omega)
          | succ n2 ih2 =>
            intro j y3 y4 H locs hP hD hS ls hl
            refine lv_iload hx hb dX0_joinHalves_30 (lv_at hl 7 rfl) ?_
            refine lv_iload hx hb dX0_joinHalves_32 (lv_at hl 4 rfl) ?_
            refine lv_icmp_ge (tgt := 69) hx hb dX0_joinHalves_34 (by decide) (fun hc2 => ?_) (fun hc2 => ?_)
            · have hj : j = 2 ^ t := by have := (nI_leI (by omega) (by omega)).mp hc2; omega
              rw [hj] at hP hD
              refine lv_iload hx hb dX0_joinHalves_69 (lv_at hl 4 rfl) ?_
              refine lv_iconst (v := (1 : Int32)) hx hb dX0_joinHalves_71 (by decide) ?_
              refine lv_ishl hx hb dX0_joinHalves_72 ?_
              refine kt_i (v := nI (2 ^ (t + 1))) ((pk_shlN _ 1 (by decide) (by omega)).trans (by rw [Nat.pow_one, Nat.pow_succ])) ?_
              refine lv_istore (lv' := [(5, .int (nI (2 ^ (t + 1)))), (0, .ref h0), (1, .int (nI (2 ^ L))), (2, .long (lN w0)), (4, .int (nI P)), (6, .long (lN (w0 ^ (2 ^ L / (2 * 2 ^ t)) % P))), (8, .long (lN ((w0 ^ (2 ^ L / (2 * 2 ^ t)) % P) ^ j % P))), (10, .int (nI j))]) hx hb dX0_joinHalves_73 hl (by decide) rfl (fun ls hl => ?_)
              refine lv_goto (tgt := 3) hx hb dX0_joinHalves_75 (by decide) ?_
              exact ih (t + 1) (by omega) (by omega) H locs hP hD hS ls (lv_sub hl [1, 2, 3, 4, 0] rfl)
            · have hj : j < 2 ^ t := Nat.not_le.mp fun z => hc2 ((nI_leI (by omega) (by omega)).mpr z)
              have hfac := Nat.mod_lt ((w0 ^ (2 ^ L / (2 * 2 ^ t)) % P) ^ j) (show 0 < P by omega)
              refine lv_aload_n hx hb dX0_joinHalves_37 rfl (lv_at hl 0 rfl) ?_
              refine lv_iload_n hx hb dX0_joinHalves_38 rfl (lv_at hl 1 rfl) ?_
              refine lv_iload hx hb dX0_joinHalves_39 (lv_at hl 4 rfl) ?_
              refine lv_iload hx hb dX0_joinHalves_41 (lv_at hl 7 rfl) ?_
              refine lv_lload hx hb dX0_joinHalves_43 (lv_at hl 6 rfl) ?_
              refine lv_iload hx hb dX0_joinHalves_45 (lv_at hl 3 rfl) ?_
              refine lv_i2l (v := lN P) hx hb dX0_joinHalves_47 (nI_l (by omega)) ?_
              refine kv_v (As := [.int (nI (2 ^ L)), .int (nI (2 ^ t)), .int (nI j), .long (lN ((w0 ^ (2 ^ L / (2 * 2 ^ t)) % P) ^ j % P)), .long (lN P)]) (rest := []) (ci := 0) (q := (RX0, TX0, 2)) (wc := w3 h0 h1 h2 cA cB (zem (2 ^ L) (zlv P (2 ^ t) (w0 ^ (2 ^ L / (2 * 2 ^ t)) % P) (2 ^ L / (2 * 2 ^ t)) (zft P (2 ^ L) w0 G t) j) f) g) (wr := []) ⟨hx, hb, hml, hown, hts⟩ (m_joinPairs l dC dI h0 h1 h2 _ cA cB f g _ (2 ^ L) (2 ^ t) j ((w0 ^ (2 ^ L / (2 * 2 ^ t)) % P) ^ j % P) P (2 ^ L / (2 * 2 ^ t)) (by omega) hB hj (by omega) hPP hfac (zlv_lt (by omega) (zft_lt (by omega) hG t) j)) (cwV 5 hts gX0_joinHalves_X0_joinPairs rfl rfl rfl (by decide +kernel) ⟨Nat.le_of_ble_eq_true rfl, Nat.le_of_ble_eq_true rfl⟩) hK hK hP hD hS hA [0, 1, 2] [] rfl rfl rfl (by decide) hP hD rfl rfl rfl hl.1 rfl (Nat.le_of_ble_eq_true rfl) dX0_joinHalves_48 ⟨Nat.zero_le _, Nat.zero_le _⟩ (fun w9 H locs hw9 hP hD hS => ?_)
              have hw9 : w9 = w3 h0 h1 h2 cA cB (zem (2 ^ L) (zlv P (2 ^ t) (w0 ^ (2 ^ L / (2 * 2 ^ t)) % P) (2 ^ L / (2 * 2 ^ t)) (zft P (2 ^ L) w0 G t) (j + 1)) f) g := hw9
              subst hw9
              have hP : va_P (dC, dI) vwCl (w3 h0 h1 h2 cA cB (zem (2 ^ L) (zlv P (2 ^ t) (w0 ^ (2 ^ L / (2 * 2 ^ t)) % P) (2 ^ L / (2 * 2 ^ t)) (zft P (2 ^ L) w0 G t) (j + 1)) f) g) H := hP
              have hD : va_D (va_A (w3 h0 h1 h2 cA cB (zem (2 ^ L) G f) g) sz) (w3 h0 h1 h2 cA cB (zem (2 ^ L) (zlv P (2 ^ t) (w0 ^ (2 ^ L / (2 * 2 ^ t)) % P) (2 ^ L / (2 * 2 ^ t)) (zft P (2 ^ L) w0 G t) (j + 1)) f) g) := hD
              refine lv_lload hx hb dX0_joinHalves_51 (lv_at hl 6 rfl) ?_
              refine lv_lload hx hb dX0_joinHalves_53 (lv_at hl 5 rfl) ?_
              refine lv_iload hx hb dX0_joinHalves_55 (lv_at hl 3 rfl) ?_
              refine lv_i2l (v := lN P) hx hb dX0_joinHalves_57 (nI_l (by omega)) ?_
              refine kc_lv (As := [.long (lN ((w0 ^ (2 ^ L / (2 * 2 ^ t)) % P) ^ j % P)), .long (lN (w0 ^ (2 ^ L / (2 * 2 ^ t)) % P)), .long (lN P)]) (rest := []) ⟨hx, hb, hml, hown, hts⟩ (m_product l _ _ P hPP hfac hst) (va_cwS 3 hts gX0_joinHalves_X0_product rfl rfl rfl (by decide +kernel) ⟨Nat.le_of_ble_eq_true rfl, Nat.le_of_ble_eq_true rfl⟩) rfl hl.1 rfl (Nat.le_of_ble_eq_true rfl) dX0_joinHalves_58 ⟨Nat.zero_le _, Nat.zero_le _⟩ ?_
              refine kt_l (v := lN ((w0 ^ (2 ^ L / (2 * 2 ^ t)) % P) ^ (j + 1) % P)) (congrArg lN (z_pw j)) ?_
              refine lv_lstore (lv' := [(8, .long (lN ((w0 ^ (2 ^ L / (2 * 2 ^ t)) % P) ^ (j + 1) % P))), (0, .ref h0), (1, .int (nI (2 ^ L))), (2, .long (lN w0)), (4, .int (nI P)), (5, .int (nI (2 ^ t))), (6, .long (lN (w0 ^ (2 ^ L / (2 * 2 ^ t)) % P))), (10, .int (nI j))]) hx hb dX0_joinHalves_61 hl (by decide) rfl (fun ls hl => ?_)
              refine lv_iinc (v := nI (j + 1)) (lv' := [(10, .int (nI (j + 1))), (8, .long (lN ((w0 ^ (2 ^ L / (2 * 2 ^ t)) % P) ^ (j + 1) % P))), (0, .ref h0), (1, .int (nI (2 ^ L))), (2, .long (lN w0)), (4, .int (nI P)), (5, .int (nI (2 ^ t))), (6, .long (lN (w0 ^ (2 ^ L / (2 * 2 ^ t)) % P)))]) hx hb dX0_joinHalves_63 hl (k := 7) rfl (nI_1 j) (by decide) rfl (fun ls hl => ?_)
              refine lv_goto (tgt := 30) hx hb dX0_joinHalves_66 (by decide) ?_
              exact ih2 (j + 1) (by omega) (by omega) H locs hP hD hS ls (lv_sub hl [2, 3, 4, 5, 6, 7, 1, 0] rfl)
        exact inner (2 ^ t + 1) 0 (by omega) (by omega) H locs hP hD hS ls (lv_sub hl [3, 4, 5, 6, 7, 2, 1, 0] rfl)
  exact loop (L + 1) 0 (by omega) (by omega) _ _ hP hD hS ls (lv_sub hl [1, 2, 3, 4, 0] rfl)
set_option maxHeartbeats 4000000 in
set_option maxRecDepth 100000 in
theorem m_put (l : Launch) (dC : Nat → ClassId) (dI : Nat → Nat → Nat) (h0 h1 h2 sz : Nat) (cA cB : ClassId) (f g : Nat → Int64) (q : Int32) (v : Int64) : Met l yX0_put wsX0_put ({ frames := 1, cells := 0, slots := 0, locals := 20 }) (kPre (dC, dI) [(cA, .long), (cB, .long)] [.ref h0, .int q, .long v] sz (w3 h0 h1 h2 cA cB f g)) (kQi (dC, dI) [(cA, .long), (cB, .long)] sz (w3 h0 h1 h2 cA cB f g) (fun r w => (r = 1 ∧ ∃ j, j < 1024 ∧ q = nI j ∧ w = w3 h0 h1 h2 cA cB (vp_updL f j v) g) ∨ (r = 0 ∧ (¬ ∃ j, j < 1024 ∧ q = nI j) ∧ w = w3 h0 h1 h2 cA cB f g))) 0 0 (va_A (w3 h0 h1 h2 cA cB f g) sz) := by
  refine k_met (cc := cX0_put) (maxL := 4) (ret := (some .boolean)) (by decide) rfl (Nat.le_of_ble_eq_true rfl) ?_
  intro p e s m below meth c ls hx hb hr hlocks hml hown hts hnm hK hP hD hS hA hl
  have hl : lv_has ls 4 [(0, .ref h0), (1, .int q), (2, .long v)] := hl
  have inws : ∀ w ∈ u_ws RX0 TX0 2, w ∈ wsX0_put := by decide +kernel
  refine lv_iload_n hx hb dX0_put_0 rfl (lv_at hl 1 rfl) ?_
  refine kc_i (As := [.int q]) (rest := []) ⟨hx, hb, hml, hown, hts⟩ (m_isPlace l q) (va_cwS 1 hts gX0_put_X0_isPlace rfl rfl rfl (by decide +kernel) ⟨Nat.le_of_ble_eq_true rfl, Nat.le_of_ble_eq_true rfl⟩) rfl hl.1 rfl (Nat.le_of_ble_eq_true rfl) dX0_put_1 ⟨Nat.zero_le _, Nat.zero_le _⟩ (fun r1 hr1 => ?_)
  rcases hr1 with ⟨rfl, j, hj, rfl⟩ | ⟨rfl, hn⟩
  · refine lv_if_ne (tgt := 9) hx hb dX0_put_4 (by decide) (fun _ => ?_) (fun hc => absurd hc (by decide))
    refine lv_aload_n hx hb dX0_put_9 rfl (lv_at hl 0 rfl) ?_
    refine va_get (D := (dC, dI)) (ci := 0) (v := .ref h1) (C := RX0) (T := TX0) (N := 2) hx hb hts inws hown hK hP 0 rfl rfl 0 (by decide) (hts (.fieldLink RX0 9 "ResidueTransforms" "row" "[J") (by decide +kernel)) (fun _ h9 => h9) rfl dX0_put_10 ?_
    refine lv_iload_n hx hb dX0_put_13 rfl (lv_at hl 1 rfl) ?_
    refine lv_lload_n hx hb dX0_put_14 rfl (lv_at hl 2 rfl) ?_
    refine ka_st (w1 := w3 h0 h1 h2 cA cB (vp_updL f j v) g) hx hb hK hP hD hS 1 0 rfl rfl (i := j) (hj) (by decide) dX0_put_15 (congrArg (fun z => w3 h0 h1 h2 cA cB z g) (rfl)) (fun H locs hP hD hS => ?_)
    refine lv_iconst (v := (1 : Int32)) hx hb dX0_put_16 (by decide) ?_
    exact kr_z hx hb hr rfl hlocks hK hP hD hS (Or.inl ⟨rfl, j, hj, rfl, rfl⟩) dX0_put_17
  · refine lv_if_ne (tgt := 9) hx hb dX0_put_4 (by decide) (fun hc => absurd rfl hc) (fun _ => ?_)
    refine lv_iconst (v := (0 : Int32)) hx hb dX0_put_7 (by decide) ?_
    exact kr_z hx hb hr rfl hlocks hK hP hD hS (Or.inr ⟨rfl, hn, rfl⟩) dX0_put_8
set_option maxHeartbeats 4000000 in
set_option maxRecDepth 100000 in
theorem m_get (l : Launch) (dC : Nat → ClassId) (dI : Nat → Nat → Nat) (h0 h1 h2 sz : Nat) (cA cB : ClassId) (f g : Nat → Int64) (q : Int32) : Met l yX0_get wsX0_get ({ frames := 1, cells := 0, slots := 0, locals := 20 }) (kPre (dC, dI) [(cA, .long), (cB, .long)] [.ref h0, .int q] sz (w3 h0 h1 h2 cA cB f g)) (kQl (dC, dI) [(cA, .long), (cB, .long)] sz (w3 h0 h1 h2 cA cB f g) (fun r w => w = w3 h0 h1 h2 cA cB f g ∧ ((∃ j, j < 1024 ∧ q = nI j ∧ r = f j) ∨ ((¬ ∃ j, j < 1024 ∧ q = nI j) ∧ r = lN 0)))) 0 0 (va_A (w3 h0 h1 h2 cA cB f g) sz) := by
  refine k_met (cc := cX0_get) (maxL := 2) (ret := (some .long)) (by decide) rfl (Nat.le_of_ble_eq_true rfl) ?_
  intro p e s m below meth c ls hx hb hr hlocks hml hown hts hnm hK hP hD hS hA hl
  have hl : lv_has ls 2 [(0, .ref h0), (1, .int q)] := hl
  have inws : ∀ w ∈ u_ws RX0 TX0 2, w ∈ wsX0_get := by decide +kernel
  refine lv_iload_n hx hb dX0_get_0 rfl (lv_at hl 1 rfl) ?_
  refine kc_i (As := [.int q]) (rest := []) ⟨hx, hb, hml, hown, hts⟩ (m_isPlace l q) (va_cwS 1 hts gX0_get_X0_isPlace rfl rfl rfl (by decide +kernel) ⟨Nat.le_of_ble_eq_true rfl, Nat.le_of_ble_eq_true rfl⟩) rfl hl.1 rfl (Nat.le_of_ble_eq_true rfl) dX0_get_1 ⟨Nat.zero_le _, Nat.zero_le _⟩ (fun r1 hr1 => ?_)
  rcases hr1 with ⟨rfl, j, hj, rfl⟩ | ⟨rfl, hn⟩
  · refine lv_if_eq (tgt := 16) hx hb dX0_get_4 (by decide) (fun hc => absurd hc (by decide)) (fun _ => ?_)
    refine lv_aload_n hx hb dX0_get_7 rfl (lv_at hl 0 rfl) ?_
    refine va_get (D := (dC, dI)) (ci := 0) (v := .ref h1) (C := RX0) (T := TX0) (N := 2) hx hb hts inws hown hK hP 0 rfl rfl 0 (by decide) (hts (.fieldLink RX0 9 "ResidueTransforms" "row" "[J") (by decide +kernel)) (fun _ h9 => h9) rfl dX0_get_8 ?_
    refine lv_iload_n hx hb dX0_get_11 rfl (lv_at hl 1 rfl) ?_
    refine ka_ld hx hb hK hP 1 0 rfl rfl (i := j) (hj) (by decide) dX0_get_12 ?_
    refine lv_goto (tgt := 17) hx hb dX0_get_13 (by decide) ?_
    exact kr_l hx hb hr hlocks hK hP hD hS ⟨rfl, Or.inl ⟨j, hj, rfl, rfl⟩⟩ dX0_get_17
  · refine lv_if_eq (tgt := 16) hx hb dX0_get_4 (by decide) (fun _ => ?_) (fun hc => absurd rfl hc)
    refine lv_lconst (v := lN 0) hx hb dX0_get_16 (by decide) ?_
    exact kr_l hx hb hr hlocks hK hP hD hS ⟨rfl, Or.inr ⟨hn, rfl⟩⟩ dX0_get_17
set_option maxHeartbeats 4000000 in
set_option maxRecDepth 100000 in
theorem m_keep (l : Launch) (dC : Nat → ClassId) (dI : Nat → Nat → Nat) (h0 h1 h2 sz : Nat) (cA cB : ClassId) (f g : Nat → Int64) (q : Int32) : Met l yX0_keep wsX0_keep ({ frames := 1, cells := 0, slots := 0, locals := 20 }) (kPre (dC, dI) [(cA, .long), (cB, .long)] [.ref h0, .int q] sz (w3 h0 h1 h2 cA cB f g)) (kQi (dC, dI) [(cA, .long), (cB, .long)] sz (w3 h0 h1 h2 cA cB f g) (fun r w => (r = 1 ∧ ∃ j, j ≤ 1024 ∧ q = nI j ∧ w = w3 h0 h1 h2 cA cB f (zpt 1024 (fun t => if t < j then f t else lN 0) g)) ∨ (r = 0 ∧ (¬ ∃ j, j ≤ 1024 ∧ q = nI j) ∧ w = w3 h0 h1 h2 cA cB f g))) 0 0 (va_A (w3 h0 h1 h2 cA cB f g) sz) := by
  refine k_met (cc := cX0_keep) (maxL := 3) (ret := (some .boolean)) (by decide) rfl (Nat.le_of_ble_eq_true rfl) ?_
  intro p e s m below meth c ls hx hb hr hlocks hml hown hts hnm hK hP hD hS hA hl
  have hl : lv_has ls 3 [(0, .ref h0), (1, .int q)] := hl
  have inws : ∀ w ∈ u_ws RX0 TX0 2, w ∈ wsX0_keep := by decide +kernel
  refine lv_iload_n hx hb dX0_keep_0 rfl (lv_at hl 1 rfl) ?_
  refine kc_i (As := [.int q]) (rest := []) ⟨hx, hb, hml, hown, hts⟩ (m_isCount l q) (va_cwS 1 hts gX0_keep_X0_isCount rfl rfl rfl (by decide +kernel) ⟨Nat.le_of_ble_eq_true rfl, Nat.le_of_ble_eq_true rfl⟩) rfl hl.1 rfl (Nat.le_of_ble_eq_true rfl) dX0_keep_1 ⟨Nat.zero_le _, Nat.zero_le _⟩ (fun r1 hr1 => ?_)
  rcases hr1 with ⟨rfl, N, hN, rfl⟩ | ⟨rfl, hn⟩
  · refine lv_if_ne (tgt := 9) hx hb dX0_keep_4 (by decide) (fun _ => ?_) (fun hc => absurd hc (by decide))
    refine lv_iconst (v := nI 0) hx hb dX0_keep_9 (by decide) ?_
    refine lv_istore_n (lv' := [(2, .int (nI 0)), (0, .ref h0), (1, .int (nI N))]) hx hb dX0_keep_10 rfl hl (by decide) rfl (fun ls hl => ?_)
    have loop : ∀ (n i : Nat), 1025 ≤ i + n → i ≤ 1024 → ∀ (H : Heap) (locs : List Loc), va_P (dC, dI) vwCl (w3 h0 h1 h2 cA cB f (zpt i (fun t => if t < N then f t else lN 0) g)) H → va_D (va_A (w3 h0 h1 h2 cA cB f g) sz) (w3 h0 h1 h2 cA cB f (zpt i (fun t => if t < N then f t else lN 0) g)) → va_S (va_A (w3 h0 h1 h2 cA cB f g) sz) s.heap H locs → ∀ (ls : Array Slot), lv_has ls 3 [(0, .ref h0), (1, .int (nI N)), (2, .int (nI i))] → W p l e ({ frames := 1, cells := 0, slots := 0, locals := 20 } : Room) s m ([.ref h0, .int (nI N)] : List Value).toArray below meth c H locs 0 0 (MQ below (kQi (dC, dI) [(cA, .long), (cB, .long)] sz (w3 h0 h1 h2 cA cB f g) (fun r w => (r = 1 ∧ ∃ j, j ≤ 1024 ∧ nI N = nI j ∧ w = w3 h0 h1 h2 cA cB f (zpt 1024 (fun t => if t < j then f t else lN 0) g)) ∨ (r = 0 ∧ (¬ ∃ j, j ≤ 1024 ∧ nI N = nI j) ∧ w = w3 h0 h1 h2 cA cB f g))) ([.ref h0, .int (nI N)] : List Value).toArray s 0 0 (va_A (w3 h0 h1 h2 cA cB f g) sz)) (F0 m 11 ls []) := by
      intro n
      induction n with
      | zero => intro i y1 y2; exact absurd y1 (by omega)
      | succ n ih =>
        intro i y1 y2 H locs hP hD hS ls hl
        refine lv_iload_n hx hb dX0_keep_11 rfl (lv_at hl 2 rfl) ?_
        refine lv_sipush (v := nI 1024) hx hb dX0_keep_12 (by decide) ?_
        refine lv_icmp_ge (tgt := 45) hx hb dX0_keep_15 (by decide) (fun hc => ?_) (fun hc => ?_)
        · have hi : i = 1024 := by have := (nI_leI (by omega) (by omega)).mp hc; omega
          subst hi
          refine lv_iconst (v := (1 : Int32)) hx hb dX0_keep_45 (by decide) ?_
          exact kr_z hx hb hr rfl hlocks hK hP hD hS (Or.inl ⟨rfl, N, hN, rfl, rfl⟩) dX0_keep_46
        · have hi : i < 1024 := Nat.not_le.mp fun z => hc ((nI_leI (by omega) (by omega)).mpr z)
          refine lv_aload_n hx hb dX0_keep_18 rfl (lv_at hl 0 rfl) ?_
          refine va_get (D := (dC, dI)) (ci := 0) (v := .ref h2) (C := RX0) (T := TX0) (N := 2) hx hb hts inws hown hK hP 0 rfl rfl 1 (by decide) (hts (.fieldLink RX0 13 "ResidueTransforms" "kept" "[J") (by decide +kernel)) (fun _ h9 => h9) rfl dX0_keep_19 ?_
          refine lv_iload_n hx hb dX0_keep_22 rfl (lv_at hl 2 rfl) ?_
          refine lv_iload_n hx hb dX0_keep_23 rfl (lv_at hl 2 rfl) ?_
          refine lv_iload_n hx hb dX0_keep_24 rfl (lv_at hl 1 rfl) ?_
          refine lv_icmp_ge (tgt := 37) hx hb dX0_keep_25 (by decide) (fun hc2 => ?_) (fun hc2 => ?_)
          · have hiN : ¬ i < N := by have := (nI_leI (by omega) (by omega)).mp hc2; omega
            refine lv_lconst (v := lN 0) hx hb dX0_keep_37 (by decide) ?_
            refine ka_st (w1 := w3 h0 h1 h2 cA cB f (zpt (i + 1) (fun t => if t < N then f t else lN 0) g)) hx hb hK hP hD hS 2 1 rfl rfl (i := i) (by omega) (by decide) dX0_keep_38 (congrArg (fun z => w3 h0 h1 h2 cA cB f z) (zpt_up (if_neg hiN).symm)) (fun H locs hP hD hS => ?_)
            refine lv_iinc (v := nI (i + 1)) (lv' := [(2, .int (nI (i + 1))), (0, .ref h0), (1, .int (nI N))]) hx hb dX0_keep_39 hl (k := 2) rfl (nI_1 i) (by decide) rfl (fun ls hl => ?_)
            refine lv_goto (tgt := 11) hx hb dX0_keep_42 (by decide) ?_
            exact ih (i + 1) (by omega) (by omega) H locs hP hD hS ls (lv_sub hl [1, 2, 0] rfl)
          · have hiN : i < N := Nat.not_le.mp fun z => hc2 ((nI_leI (by omega) (by omega)).mpr z)
            refine lv_aload_n hx hb dX0_keep_28 rfl (lv_at hl 0 rfl) ?_
            refine va_get (D := (dC, dI)) (ci := 0) (v := .ref h1) (C := RX0) (T := TX0) (N := 2) hx hb hts inws hown hK hP 0 rfl rfl 0 (by decide) (hts (.fieldLink RX0 9 "ResidueTransforms" "row" "[J") (by decide +kernel)) (fun _ h9 => h9) rfl dX0_keep_29 ?_
            refine lv_iload_n hx hb dX0_keep_32 rfl (lv_at hl 2 rfl) ?_
            refine ka_ld hx hb hK hP 1 0 rfl rfl (i := i) (by omega) (by decide) dX0_keep_33 ?_
            refine lv_goto (tgt := 38) hx hb dX0_keep_34 (by decide) ?_
            refine ka_st (w1 := w3 h0 h1 h2 cA cB f (zpt (i + 1) (fun t => if t < N then f t else lN 0) g)) hx hb hK hP hD hS 2 1 rfl rfl (i := i) (by omega) (by decide) dX0_keep_38 (congrArg (fun z => w3 h0 h1 h2 cA cB f z) (zpt_up (if_pos hiN).symm)) (fun H locs hP hD hS => ?_)
            refine lv_iinc (v := nI (i + 1)) (lv' := [(2, .int (nI (i + 1))), (0, .ref h0), (1, .int (nI N))]) hx hb dX0_keep_39 hl (k := 2) rfl (nI_1 i) (by decide) rfl (fun ls hl => ?_)
            refine lv_goto (tgt := 11) hx hb dX0_keep_42 (by decide) ?_
            exact ih (i + 1) (by omega) (by omega) H locs hP hD hS ls (lv_sub hl [1, 2, 0] rfl)
    exact loop 1025 0 (by omega) (by omega) _ _ (by rw [zpt_0]; exact hP) (by rw [zpt_0]; exact hD) hS ls (lv_sub hl [1, 2, 0] rfl)
  · refine lv_if_ne (tgt := 9) hx hb dX0_keep_4 (by decide) (fun hc => absurd rfl hc) (fun _ => ?_)
    refine lv_iconst (v := (0 : Int32)) hx hb dX0_keep_7 (by decide) ?_
    exact kr_z hx hb hr rfl hlocks hK hP hD hS (Or.inr ⟨rfl, hn, rfl⟩) dX0_keep_8
