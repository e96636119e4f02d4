/-! the static methods of both classes: what they answer -/
theorem zl_ne {P : Nat} (h0 : 0 < P) (h : P < 2 ^ 63) : ¬ lN P = 0 := by
  intro q
  have h1 := pk_lT h
  rw [q] at h1
  have : (0 : Int64).toInt = 0 := by decide
  omega
theorem zi_ne {P : Nat} (h0 : 0 < P) (h : P < 2 ^ 31) : ¬ nI P = 0 := nI_ne0 h0 h
theorem k_metSF {l : Launch} {y : MethodName} {ws ws' : List Cond} {rm : Room} {cc : ByteArray} {maxL : Nat} {ret : Option FieldType} {av : List Value} {Qc : Array Value → State → Outcome → State → Prop} (hy : plainFor y = true) (hw : ws = Cond.code y cc maxL ret :: ws') (hsl : (lg_sl av).length ≤ maxL)
    (body : ∀ (p : Program) (e : Env) (s : State) (m : MethodId) (below : List Frame) (meth : Method) (c : Code) (ls : Array Slot), p.tables.exec = Jvm.exec → c.code = cc → meth.sig.returnType = ret → meth.locks = false → c.maxLocals = maxL → s.vm.findClass y.cls = some m.cls → (∀ w ∈ ws, w.before av.toArray s = true) → lv_has ls maxL (lv_args 0 av) →
      W p l e rm s m av.toArray below meth c s.heap [] 0 0 (MQ below Qc av.toArray s 0 0 (fun _ => False)) (F0 m 0 ls [])) : Met l y ws rm (va_Pc av (fun _ => True)) Qc 0 0 (fun _ => False) := by
  refine va_MetF (cc := cc) (maxL := maxL) (ret := ret) hy hw ?_
  intro p e s m args below meth c s₁ B hml hv
  obtain ⟨rfl, -⟩ := hv
  rw [lg_entry_eq]
  exact body p e s m below meth c _ B.exec B.bytes B.returns B.notSynchronized hml (findClass_of_methodNamed B.named) (atoms_spec (ws := ws) B.pre) (lv_entry av hsl)
def zsz (n : Int32) : Prop := ∃ L, L ≤ 10 ∧ n = nI (2 ^ L)
def zok (q : Int32) : Prop := ∃ P, q = nI P ∧ 3 ≤ P ∧ P ≤ 1000000007 ∧ ztd P
def zgo (n q : Int32) (L P : Nat) : Prop := L ≤ 10 ∧ n = nI (2 ^ L) ∧ q = nI P ∧ 3 ≤ P ∧ P ≤ 1000000007 ∧ ztd P
def zrf (n q r : Int32) : Prop := (r = -1 ∧ ¬ zsz n) ∨ (r = -2 ∧ zsz n ∧ ¬ zok q) ∨ (r = -3 ∧ ∃ L P, zgo n q L P ∧ ¬ 2 ^ L ∣ P - 1) ∨ (r = 0 ∧ ∃ L P, zgo n q L P ∧ 2 ^ L ∣ P - 1)
theorem z_2pow {L : Nat} (h : L ≤ 10) : 1 ≤ 2 ^ L ∧ 2 ^ L ≤ 1024 := ⟨Nat.two_pow_pos L, Nat.pow_le_pow_right (by omega) h⟩
theorem z_and1 : ∀ j : Fin 1025, 1 ≤ j.val → ((nI j.val &&& (nI j.val - 1)) = 0 ↔ ∃ L : Fin 11, j.val = 2 ^ L.val) := by decide +kernel
theorem z_and {j : Nat} (h1 : 1 ≤ j) (h2 : j ≤ 1024) : (nI j &&& (nI j - 1)) = 0 ↔ zsz (nI j) := by
  refine (z_and1 ⟨j, by omega⟩ h1).trans ⟨fun ⟨L, hL⟩ => ⟨L.val, by omega, by rw [← hL]⟩, fun ⟨L, hL, e⟩ => ⟨⟨L, by omega⟩, ?_⟩⟩
  have := z_2pow hL
  show j = 2 ^ L
  exact (nI_eq (by omega) (by omega)).mp e
theorem zsz_lo {n : Int32} (h : n < 1) : ¬ zsz n := by
  intro ⟨L, hL, e⟩
  have := z_2pow hL
  subst e
  exact nI_ge (a := 0) (b := 2 ^ L) (by omega) (by omega) (by
    have h1 := Int32.lt_iff_toInt_lt.mp h
    rw [nI_toInt (by omega)] at h1
    have : (1 : Int32).toInt = 1 := by decide
    omega)
theorem zsz_hi {n : Int32} (h : 1024 < n) : ¬ zsz n := by
  intro ⟨L, hL, e⟩
  have := z_2pow hL
  subst e
  have h1 := Int32.lt_iff_toInt_lt.mp h
  rw [nI_toInt (by omega)] at h1
  have : (1024 : Int32).toInt = 1024 := by decide
  omega
theorem zi_of {q : Int32} {a b : Int32} (a' b' : Nat) (ha : a.toInt = (a' : Int)) (hb : b.toInt = (b' : Int)) (h1 : ¬ q < a) (h2 : ¬ b < q) : ∃ j, q = nI j ∧ a' ≤ j ∧ j ≤ b' := by
  have e1 := Int32.lt_iff_toInt_lt (x := q) (y := a)
  have e2 := Int32.lt_iff_toInt_lt (x := b) (y := q)
  have hlt := b.toInt_lt
  have h0 : ¬ q < 0 := by
    intro h
    have h3 := Int32.lt_iff_toInt_lt.mp h
    have : (0 : Int32).toInt = 0 := by decide
    exact h1 (e1.mpr (by omega))
  obtain ⟨j, hj, rfl⟩ := nI_of h0
  rw [nI_toInt hj] at e1 e2
  exact ⟨j, rfl, by
    rcases Nat.lt_or_ge j a' with q | q
    · exact absurd (e1.mpr (by omega)) h1
    · exact q, by
    rcases Nat.lt_or_ge b' j with q | q
    · exact absurd (e2.mpr (by omega)) h2
    · exact q⟩
theorem zi_lt {j : Nat} {a : Int32} (a' : Nat) (ha : a.toInt = (a' : Int)) (hj : j < 2 ^ 31) : nI j < a ↔ j < a' := by
  rw [Int32.lt_iff_toInt_lt, nI_toInt hj]; omega
theorem zi_gt {j : Nat} {a : Int32} (a' : Nat) (ha : a.toInt = (a' : Int)) (hj : j < 2 ^ 31) : a < nI j ↔ a' < j := by
  rw [Int32.lt_iff_toInt_lt, nI_toInt hj]; omega
theorem zok_nI {P : Nat} (hP : P < 2 ^ 31) : zok (nI P) ↔ 3 ≤ P ∧ P ≤ 1000000007 ∧ ztd P := by
  constructor
  · intro ⟨Q, e, h⟩
    have := (nI_eq hP (by omega)).mp e
    rw [this]; exact h
  · intro h; exact ⟨P, rfl, h⟩
theorem zok_lo {q : Int32} (h : q < 3) : ¬ zok q := by
  intro ⟨P, e, h1, h2, _⟩
  subst e
  exact absurd ((zi_lt 3 (by decide) (by omega)).mp h) (by omega)
theorem zok_hi {q : Int32} (h : 1000000007 < q) : ¬ zok q := by
  intro ⟨P, e, h1, h2, _⟩
  subst e
  exact absurd ((zi_gt 1000000007 (by decide) (by omega)).mp h) (by omega)
theorem z_sq {D b : Nat} (h : D * D ≤ b * b + 2 * b) : D ≤ b := by
  rcases Nat.lt_or_ge b D with q | q
  · have : (b + 1) * (b + 1) ≤ D * D := Nat.mul_le_mul q q
    have e : (b + 1) * (b + 1) = b * b + 2 * b + 1 := by grind
    omega
  · exact q
/-- a number with no odd divisor up to its root, and no even one -/
theorem z_td_odd {P D : Nat} (hodd : P % 2 = 1) (h : ∀ d, 3 ≤ d → d % 2 = 1 → d < D → ¬ d ∣ P) (hD : P < D * D) : ztd P := by
  intro d h2 hd hdv
  have hlt : d < D := by
    rcases Nat.lt_or_ge d D with q | q
    · exact q
    · have := Nat.mul_le_mul q q; omega
  by_cases e : d % 2 = 1
  · exact h d (by omega) e hlt hdv
  · have : 2 ∣ P := Nat.dvd_trans (Nat.dvd_of_mod_eq_zero (by omega)) hdv
    omega
theorem z_td_all {P D : Nat} (h : ∀ d, 2 ≤ d → d < D → ¬ d ∣ P) (hD : P < D * D) : ztd P := by
  intro d h2 hd hdv
  have hlt : d < D := by
    rcases Nat.lt_or_ge d D with q | q
    · exact q
    · have := Nat.mul_le_mul q q; omega
  exact h d h2 hlt hdv
theorem z_or1 : ∀ A : Fin 1024, ∀ b : Fin 2, nI (A.val * 2 ^ 1) ||| nI b.val = nI (2 * A.val + b.val) := by decide +kernel
theorem z_or {A b : Nat} (hA : A < 1024) (hb : b < 2) : nI (A * 2 ^ 1) ||| nI b = nI (2 * A + b) := z_or1 ⟨A, hA⟩ ⟨b, hb⟩
theorem zrf_un {n q r r' : Int32} (h : zrf n q r) (g : zrf n q r') : r = r' := by
  have up : ∀ {L P : Nat}, zgo n q L P → zsz n ∧ zok q := fun ⟨a1, a2, a3, a4, a5, a6⟩ => ⟨⟨_, a1, a2⟩, ⟨_, a3, a4, a5, a6⟩⟩
  have un : ∀ {L P L' P' : Nat}, zgo n q L P → zgo n q L' P' → 2 ^ L ∣ P - 1 → 2 ^ L' ∣ P' - 1 := by
    intro L P L' P' ⟨a1, a2, a3, a4, a5, a6⟩ ⟨b1, b2, b3, b4, b5, b6⟩ hd
    have x1 := z_2pow a1
    have x2 := z_2pow b1
    have e1 : 2 ^ L = 2 ^ L' := (nI_eq (by omega) (by omega)).mp (a2.symm.trans b2)
    have e2 : P = P' := (nI_eq (by omega) (by omega)).mp (a3.symm.trans b3)
    rw [← e1, ← e2]; exact hd
  rcases h with ⟨rfl, h1⟩ | ⟨rfl, h1, h2⟩ | ⟨rfl, L, P, h1, h2⟩ | ⟨rfl, L, P, h1, h2⟩ <;> rcases g with ⟨rfl, g1⟩ | ⟨rfl, g1, g2⟩ | ⟨rfl, L', P', g1, g2⟩ | ⟨rfl, L', P', g1, g2⟩ <;> first
    | rfl
    | exact absurd g1 h1
    | exact absurd h1 g1
    | exact absurd (up g1).1 h1
    | exact absurd (up h1).1 g1
    | exact absurd (up g1).2 h2
    | exact absurd (up h1).2 g2
    | exact absurd (un g1 h1 g2) h2
    | exact absurd (un h1 g1 h2) g2
set_option maxHeartbeats 4000000 in
set_option maxRecDepth 100000 in
theorem m_product (l : Launch) (av bv P : Nat) (hP : P ≤ 1000000007) (ha : av < P) (hbv : bv < P) : Met l yX0_product wsX0_product ({ frames := 0, cells := 0, slots := 0, locals := 0 }) (va_Pc [.long (lN av), .long (lN bv), .long (lN P)] (fun _ => True)) (vp_Sl (fun r => r = lN (av * bv % P))) 0 0 (fun _ => False) := by
  refine k_metS (cc := cX0_product) (maxL := 6) (ret := (some .long)) (by decide +kernel) rfl (Nat.le_of_ble_eq_true rfl) ?_
  intro p e s m below meth c ls hx hb hr hlocks hml hown hts hl
  have hl : lv_has ls 6 [(0, .long (lN av)), (2, .long (lN bv)), (4, .long (lN P))] := hl
  refine lv_lload_n hx hb dX0_product_0 rfl (lv_at hl 0 rfl) ?_
  refine lv_lload_n hx hb dX0_product_1 rfl (lv_at hl 1 rfl) ?_
  refine lv_lmul hx hb dX0_product_2 ?_
  refine lv_lload hx hb dX0_product_3 (lv_at hl 2 rfl) ?_
  refine lv_lrem hx hb dX0_product_5 (zl_ne (by omega) (by omega)) ?_
  refine kt_l (v := lN (av * bv % P)) (z_pr hP ha hbv) ?_
  exact kr_Sl hx hb hr hlocks rfl dX0_product_6
set_option maxHeartbeats 4000000 in
set_option maxRecDepth 100000 in
theorem m_floorMod (l : Launch) (v : Int64) (P : Nat) (h0 : 0 < P) (h : P < 2 ^ 31) : Met l yJ9_floorMod_f86c9 wsJ9_floorMod_f86c9 ({ frames := 0, cells := 0, slots := 0, locals := 0 }) (va_Pc [.long v, .long (lN P)] (fun _ => True)) (vp_Sl (fun r => r = lN (zrs P v))) 0 0 (fun _ => False) := by
  refine k_metSF (cc := cJ9_floorMod_f86c9) (maxL := 6) (ret := (some .long)) (by decide +kernel) rfl (Nat.le_of_ble_eq_true rfl) ?_
  intro p e s m below meth c ls hx hb hr hlocks hml hown hts hl
  have hl : lv_has ls 6 [(0, .long v), (2, .long (lN P))] := hl
  refine lv_lload_n hx hb dJ9_floorMod_f86c9_0 rfl (lv_at hl 0 rfl) ?_
  refine lv_lload_n hx hb dJ9_floorMod_f86c9_1 rfl (lv_at hl 1 rfl) ?_
  refine lv_lrem hx hb dJ9_floorMod_f86c9_2 (zl_ne h0 (by omega)) ?_
  refine lv_lstore (lv' := [(4, .long ((v) - (v) / ((lN P)) * ((lN P)))), (0, .long v), (2, .long (lN P))]) hx hb dJ9_floorMod_f86c9_3 hl (by decide) rfl (fun ls hl => ?_)
  refine lv_lload_n hx hb dJ9_floorMod_f86c9_5 rfl (lv_at hl 1 rfl) ?_
  refine lv_lload_n hx hb dJ9_floorMod_f86c9_6 rfl (lv_at hl 2 rfl) ?_
  refine lv_lxor hx hb dJ9_floorMod_f86c9_7 ?_
  refine lv_lconst (v := 0) hx hb dJ9_floorMod_f86c9_8 (by decide) ?_
  refine W.lcmp hx hb dJ9_floorMod_f86c9_9 ?_
  refine lv_if_ge (tgt := 25) hx hb dJ9_floorMod_f86c9_10 (by decide) (fun hc => ?_) (fun hc => ?_)
  · have hv : ¬ v < 0 := fun q => absurd ((lg_cmp_ge _ _).mp hc) (Int64.not_le.mpr ((z_xor_neg v h).mpr q))
    refine lv_lload hx hb dJ9_floorMod_f86c9_25 (lv_at hl 0 rfl) ?_
    exact kr_Sl hx hb hr hlocks (zfm_pos h0 h hv) dJ9_floorMod_f86c9_27
  · have hv : v < 0 := (z_xor_neg v h).mp (Int64.not_le.mp fun q => hc ((lg_cmp_ge _ _).mpr q))
    refine lv_lload hx hb dJ9_floorMod_f86c9_13 (lv_at hl 0 rfl) ?_
    refine lv_lconst (v := 0) hx hb dJ9_floorMod_f86c9_15 (by decide) ?_
    refine W.lcmp hx hb dJ9_floorMod_f86c9_16 ?_
    refine lv_if_eq (tgt := 25) hx hb dJ9_floorMod_f86c9_17 (by decide) (fun hc2 => ?_) (fun hc2 => ?_)
    · refine lv_lload hx hb dJ9_floorMod_f86c9_25 (lv_at hl 0 rfl) ?_
      exact kr_Sl hx hb hr hlocks (zfm_zero h0 h ((lg_cmp_eq _ _).mp hc2)) dJ9_floorMod_f86c9_27
    · refine lv_lload hx hb dJ9_floorMod_f86c9_20 (lv_at hl 0 rfl) ?_
      refine lv_lload_n hx hb dJ9_floorMod_f86c9_22 rfl (lv_at hl 2 rfl) ?_
      refine lv_ladd hx hb dJ9_floorMod_f86c9_23 ?_
      exact kr_Sl hx hb hr hlocks (zfm_neg h0 h hv fun q => hc2 ((lg_cmp_eq _ _).mpr q)) dJ9_floorMod_f86c9_24
set_option maxHeartbeats 4000000 in
set_option maxRecDepth 100000 in
theorem m_rest (l : Launch) (v : Int64) (P : Nat) (h0 : 0 < P) (h : P < 2 ^ 31) : Met l yX0_rest wsX0_rest ({ frames := 1, cells := 0, slots := 0, locals := 25 }) (va_Pc [.long v, .long (lN P)] (fun _ => True)) (vp_Sl (fun r => r = lN (zrs P v))) 0 0 (fun _ => False) := by
  refine k_metS (cc := cX0_rest) (maxL := 4) (ret := (some .long)) (by decide +kernel) rfl (Nat.le_of_ble_eq_true rfl) ?_
  intro p e s m below meth c ls hx hb hr hlocks hml hown hts hl
  have hl : lv_has ls 4 [(0, .long v), (2, .long (lN P))] := hl
  refine lv_lload_n hx hb dX0_rest_0 rfl (lv_at hl 0 rfl) ?_
  refine lv_lload_n hx hb dX0_rest_1 rfl (lv_at hl 1 rfl) ?_
  refine kc_lv (As := [.long v, .long (lN P)]) (rest := []) ⟨hx, hb, hml, hown, hts⟩ (m_floorMod l v P h0 h) (va_cwS 2 hts gX0_rest_J9_floorMod_f86c9 rfl rfl rfl (by decide +kernel) ⟨Nat.le_of_ble_eq_true rfl, Nat.le_of_ble_eq_true rfl⟩) rfl hl.1 rfl (Nat.le_of_ble_eq_true rfl) dX0_rest_2 ⟨Nat.zero_le _, Nat.zero_le _⟩ ?_
  exact kr_Sl hx hb hr hlocks rfl dX0_rest_5
theorem z_even {P r b q : Nat} (h : q % 2 = 0) : r * b ^ q % P = r * (b * b % P) ^ (q / 2) % P := by
  refine zc_modeq ?_
  have e : b ^ q = (b * b) ^ (q / 2) := by
    have e2 : q = 2 * (q / 2) := by omega
    conv => lhs; rw [e2]
    rw [Nat.pow_mul, Nat.pow_two]
  rw [e, Int.natCast_mul, Int.natCast_mul, Int.natCast_pow, Int.natCast_pow]
  exact zc_mul (zc_rf _) (zc_pow (zc_sy (zc_mod P _)) _)
theorem z_odd {P r b q : Nat} (h : q % 2 = 1) : r * b ^ q % P = r * b % P * (b * b % P) ^ (q / 2) % P := by
  refine zc_modeq ?_
  have e : r * b ^ q = r * b * (b * b) ^ (q / 2) := by
    have e2 : q = 2 * (q / 2) + 1 := by omega
    conv => lhs; rw [e2]
    rw [Nat.pow_succ, Nat.pow_mul, Nat.pow_two]
    grind
  rw [e, Int.natCast_mul (r * b), Int.natCast_mul (r * b % P), Int.natCast_pow, Int.natCast_pow]
  exact zc_mul (zc_sy (zc_mod P _)) (zc_pow (zc_sy (zc_mod P _)) _)
set_option maxHeartbeats 4000000 in
set_option maxRecDepth 100000 in
theorem m_power (l : Launch) (av E P : Nat) (hP : P ≤ 1000000007) (ha : av < P) (h1 : 1 < P) (hE : E < 2 ^ 31) : Met l yX0_power wsX0_power ({ frames := 1, cells := 0, slots := 0, locals := 25 }) (va_Pc [.long (lN av), .int (nI E), .long (lN P)] (fun _ => True)) (vp_Sl (fun r => r = lN (av ^ E % P))) 0 0 (fun _ => False) := by
  refine k_metS (cc := cX0_power) (maxL := 10) (ret := (some .long)) (by decide +kernel) rfl (Nat.le_of_ble_eq_true rfl) ?_
  intro p e s m below meth c ls hx hb hr hlocks hml hown hts hl
  have hl : lv_has ls 10 [(0, .long (lN av)), (2, .int (nI E)), (3, .long (lN P))] := hl
  refine lv_lconst (v := lN 1) hx hb dX0_power_0 (by decide) ?_
  refine lv_lstore (lv' := [(5, .long (lN 1)), (0, .long (lN av)), (2, .int (nI E)), (3, .long (lN P))]) hx hb dX0_power_1 hl (by decide) rfl (fun ls hl => ?_)
  refine lv_lload_n hx hb dX0_power_3 rfl (lv_at hl 1 rfl) ?_
  refine lv_lstore (lv' := [(7, .long (lN av)), (5, .long (lN 1)), (0, .long (lN av)), (2, .int (nI E)), (3, .long (lN P))]) hx hb dX0_power_4 hl (by decide) rfl (fun ls hl => ?_)
  refine lv_iload_n hx hb dX0_power_6 rfl (lv_at hl 3 rfl) ?_
  refine lv_istore (lv' := [(9, .int (nI E)), (7, .long (lN av)), (5, .long (lN 1)), (0, .long (lN av)), (2, .int (nI E)), (3, .long (lN P))]) hx hb dX0_power_7 hl (by decide) rfl (fun ls hl => ?_)
  have loop : ∀ (n r b q : Nat), q < n → q < 2 ^ 31 → r < P → b < P → r * b ^ q % P = av ^ E % P → ∀ (ls : Array Slot), lv_has ls 10 [(0, .long (lN av)), (2, .int (nI E)), (3, .long (lN P)), (5, .long (lN r)), (7, .long (lN b)), (9, .int (nI q))] → W p l e ({ frames := 1, cells := 0, slots := 0, locals := 25 } : Room) s m ([.long (lN av), .int (nI E), .long (lN P)] : List Value).toArray below meth c s.heap [] 0 0 (MQ below (vp_Sl (fun r => r = lN (av ^ E % P))) ([.long (lN av), .int (nI E), .long (lN P)] : List Value).toArray s 0 0 (fun _ => False)) (F0 m 9 ls []) := by
    intro n
    induction n with
    | zero => intro r b q h1; exact absurd h1 (Nat.not_lt_zero _)
    | succ n ih =>
      intro r b q hqn hq hrP hbP hinv ls hl
      have tail : ∀ (r2 : Nat), r2 < P → r2 * (b * b % P) ^ (q / 2) % P = av ^ E % P → 0 < q → ∀ (ls : Array Slot), lv_has ls 10 [(0, .long (lN av)), (2, .int (nI E)), (3, .long (lN P)), (5, .long (lN r2)), (7, .long (lN b)), (9, .int (nI q))] → W p l e ({ frames := 1, cells := 0, slots := 0, locals := 25 } : Room) s m ([.long (lN av), .int (nI E), .long (lN P)] : List Value).toArray below meth c s.heap [] 0 0 (MQ below (vp_Sl (fun r => r = lN (av ^ E % P))) ([.long (lN av), .int (nI E), .long (lN P)] : List Value).toArray s 0 0 (fun _ => False)) (F0 m 32 ls []) := by
        intro r2 hr2 hinv2 hq0 ls hl
        refine lv_lload hx hb dX0_power_32 (lv_at hl 4 rfl) ?_
        refine lv_lload hx hb dX0_power_34 (lv_at hl 4 rfl) ?_
        refine lv_lload_n hx hb dX0_power_36 rfl (lv_at hl 2 rfl) ?_
        refine kc_lv (As := [.long (lN b), .long (lN b), .long (lN P)]) (rest := []) ⟨hx, hb, hml, hown, hts⟩ (m_product l b b P hP hbP hbP) (va_cwS 3 hts gX0_power_X0_product rfl rfl rfl (by decide +kernel) ⟨Nat.le_of_ble_eq_true rfl, Nat.le_of_ble_eq_true rfl⟩) rfl hl.1 rfl (Nat.le_of_ble_eq_true rfl) dX0_power_37 ⟨Nat.zero_le _, Nat.zero_le _⟩ ?_
        refine lv_lstore (lv' := [(7, .long (lN (b * b % P))), (0, .long (lN av)), (2, .int (nI E)), (3, .long (lN P)), (5, .long (lN r2)), (9, .int (nI q))]) hx hb dX0_power_40 hl (by decide) rfl (fun ls hl => ?_)
        refine lv_iload hx hb dX0_power_42 (lv_at hl 5 rfl) ?_
        refine lv_iconst (v := (1 : Int32)) hx hb dX0_power_44 (by decide) ?_
        refine lv_ishr hx hb dX0_power_45 ?_
        refine kt_i (v := nI (q / 2)) (pk_shrN (by omega) _ 1 (by decide)) ?_
        refine lv_istore (lv' := [(9, .int (nI (q / 2))), (7, .long (lN (b * b % P))), (0, .long (lN av)), (2, .int (nI E)), (3, .long (lN P)), (5, .long (lN r2))]) hx hb dX0_power_46 hl (by decide) rfl (fun ls hl => ?_)
        refine lv_goto (tgt := 9) hx hb dX0_power_48 (by decide) ?_
        exact ih r2 (b * b % P) (q / 2) (by omega) (by omega) hr2 (Nat.mod_lt _ (by omega)) hinv2 ls (lv_sub hl [2, 3, 4, 5, 1, 0] rfl)
      refine lv_iload hx hb dX0_power_9 (lv_at hl 5 rfl) ?_
      refine lv_if_le (tgt := 51) hx hb dX0_power_11 (by decide) (fun hc => ?_) (fun hc => ?_)
      · have hq0 : q = 0 := by
          rcases Nat.eq_zero_or_pos q with z | z
          · exact z
          · exact absurd hc (nI_nle z hq)
        subst hq0
        refine lv_lload hx hb dX0_power_51 (lv_at hl 3 rfl) ?_
        exact kr_Sl hx hb hr hlocks (by rw [← hinv, Nat.pow_zero, Nat.mul_one, Nat.mod_eq_of_lt hrP]) dX0_power_53
      · have hq0 : 0 < q := by
          rcases Nat.eq_zero_or_pos q with z | z
          · exact absurd (by rw [z, nI_0]; decide) hc
          · exact z
        refine lv_iload hx hb dX0_power_14 (lv_at hl 5 rfl) ?_
        refine lv_iconst (v := (1 : Int32)) hx hb dX0_power_16 (by decide) ?_
        refine lv_iand hx hb dX0_power_17 ?_
        refine kt_i (v := nI (q % 2)) (pk_andN (by omega) 1 (by decide)) ?_
        refine lv_iconst (v := (1 : Int32)) hx hb dX0_power_18 (by decide) ?_
        refine lv_icmp_ne (tgt := 32) hx hb dX0_power_19 (by decide) (fun hc2 => ?_) (fun hc2 => ?_)
        · have he : q % 2 = 0 := by
            rcases Nat.mod_two_eq_zero_or_one q with z | z
            · exact z
            · exact absurd (by rw [z]; rfl) hc2
          refine tail r hrP ?_ hq0 ls (lv_sub hl [0, 1, 2, 3, 4, 5] rfl)
          rw [← hinv]
          exact (z_even he).symm
        · have he : q % 2 = 1 := by
            rcases Nat.mod_two_eq_zero_or_one q with z | z
            · exact absurd (by rw [z] at hc2; exact hc2) (by decide)
            · exact z
          refine lv_lload hx hb dX0_power_22 (lv_at hl 3 rfl) ?_
          refine lv_lload hx hb dX0_power_24 (lv_at hl 4 rfl) ?_
          refine lv_lload_n hx hb dX0_power_26 rfl (lv_at hl 2 rfl) ?_
          refine kc_lv (As := [.long (lN r), .long (lN b), .long (lN P)]) (rest := []) ⟨hx, hb, hml, hown, hts⟩ (m_product l r b P hP hrP hbP) (va_cwS 3 hts gX0_power_X0_product rfl rfl rfl (by decide +kernel) ⟨Nat.le_of_ble_eq_true rfl, Nat.le_of_ble_eq_true rfl⟩) rfl hl.1 rfl (Nat.le_of_ble_eq_true rfl) dX0_power_27 ⟨Nat.zero_le _, Nat.zero_le _⟩ ?_
          refine lv_lstore (lv' := [(5, .long (lN (r * b % P))), (0, .long (lN av)), (2, .int (nI E)), (3, .long (lN P)), (7, .long (lN b)), (9, .int (nI q))]) hx hb dX0_power_30 hl (by decide) rfl (fun ls hl => ?_)
          refine tail (r * b % P) (Nat.mod_lt _ (by omega)) ?_ hq0 ls (lv_sub hl [1, 2, 3, 0, 4, 5] rfl)
          rw [← hinv]
          exact (z_odd he).symm
  exact loop (E + 1) 1 av E (by omega) hE (by omega) ha (by rw [Nat.one_mul]) ls (lv_sub hl [3, 4, 5, 2, 1, 0] rfl)
set_option maxHeartbeats 4000000 in
set_option maxRecDepth 100000 in
theorem m_inverse (l : Launch) (av P : Nat) (hP : P ≤ 1000000007) (ha : av < P) (h1 : 1 < P) : Met l yX0_inverse wsX0_inverse ({ frames := 2, cells := 0, slots := 0, locals := 54 }) (va_Pc [.long (lN av), .int (nI P)] (fun _ => True)) (vp_Sl (fun r => r = lN (av ^ (P - 2) % P))) 0 0 (fun _ => False) := by
  refine k_metS (cc := cX0_inverse) (maxL := 3) (ret := (some .long)) (by decide +kernel) rfl (Nat.le_of_ble_eq_true rfl) ?_
  intro p e s m below meth c ls hx hb hr hlocks hml hown hts hl
  have hl : lv_has ls 3 [(0, .long (lN av)), (2, .int (nI P))] := hl
  refine lv_lload_n hx hb dX0_inverse_0 rfl (lv_at hl 0 rfl) ?_
  refine lv_iload_n hx hb dX0_inverse_1 rfl (lv_at hl 1 rfl) ?_
  refine lv_iconst (v := nI 2) hx hb dX0_inverse_2 (by decide) ?_
  refine lv_isub hx hb dX0_inverse_3 ?_
  refine kt_i (v := nI (P - 2)) (pk_sub (by omega)) ?_
  refine lv_iload_n hx hb dX0_inverse_4 rfl (lv_at hl 1 rfl) ?_
  refine lv_i2l (v := lN P) hx hb dX0_inverse_5 (nI_l (by omega)) ?_
  refine kc_lv (As := [.long (lN av), .int (nI (P - 2)), .long (lN P)]) (rest := []) ⟨hx, hb, hml, hown, hts⟩ (m_power l av (P - 2) P hP ha h1 (by omega)) (va_cwS 3 hts gX0_inverse_X0_power rfl rfl rfl (by decide +kernel) ⟨Nat.le_of_ble_eq_true rfl, Nat.le_of_ble_eq_true rfl⟩) rfl hl.1 rfl (Nat.le_of_ble_eq_true rfl) dX0_inverse_6 ⟨Nat.zero_le _, Nat.zero_le _⟩ ?_
  exact kr_Sl hx hb hr hlocks rfl dX0_inverse_9
