/-! numbers of the machine: remainders, rows of numbers below P inside rows of longs, the reference's sums -/
theorem zl_of {v : Int64} {k : Nat} (hk : k < 2 ^ 63) (h : v.toInt = (k : Int)) : v = lN k := Int64.toInt_inj.mp (by rw [h, pk_lT hk])
def zrs (P : Nat) (v : Int64) : Nat := (v.toInt % (P : Int)).toNat
theorem zrs_lt {P : Nat} (h : 0 < P) (v : Int64) : zrs P v < P := by
  unfold zrs
  have h1 := Int.emod_nonneg v.toInt (show (P : Int) ≠ 0 by omega)
  have h2 := Int.emod_lt_of_pos v.toInt (show (0 : Int) < P by omega)
  omega
theorem zrs_i {P : Nat} (h : 0 < P) (v : Int64) : ((zrs P v : Nat) : Int) = v.toInt % (P : Int) := by
  unfold zrs
  have h1 := Int.emod_nonneg v.toInt (show (P : Int) ≠ 0 by omega)
  omega
theorem z_tm_nonpos {a : Int} (b : Int) (h : a ≤ 0) : a.tmod b ≤ 0 := by
  have h1 := Int.tmod_nonneg b (show 0 ≤ -a by omega)
  rw [Int.neg_tmod] at h1
  omega
theorem zrem_toInt (v : Int64) {P : Nat} (h0 : 0 < P) (h : P < 2 ^ 31) : (v - v / lN P * lN P).toInt = v.toInt.tmod (P : Int) := by
  have hP : (lN P).toInt = (P : Int) := lN_toInt h
  have hne : lN P ≠ -1 := by
    intro q
    rw [q] at hP
    have : (-1 : Int64).toInt = -1 := by decide
    omega
  have hd := Int64.toInt_div_of_ne_right v (lN P) hne
  rw [hP] at hd
  have e := Int.tmod_add_tdiv_mul v.toInt P
  have b1 := Int.tmod_lt_of_pos v.toInt (show (0 : Int) < P by omega)
  have b2 := Int.lt_tmod_of_pos v.toInt (show (0 : Int) < P by omega)
  have l1 := v.le_toInt
  have l2 := v.toInt_lt
  have b3 : 0 ≤ v.toInt → 0 ≤ v.toInt.tmod P := fun q => Int.tmod_nonneg _ q
  have b4 : v.toInt ≤ 0 → v.toInt.tmod P ≤ 0 := fun q => z_tm_nonpos _ q
  have hm : (v / lN P * lN P).toInt = v.toInt.tdiv P * P := by
    rw [Int64.toInt_mul, hd, hP]
    exact Int.bmod_eq_of_le (by omega) (by omega)
  rw [Int64.toInt_sub, hm, Int.bmod_eq_of_le (by omega) (by omega)]
  omega
theorem zfm_pos {v : Int64} {P : Nat} (h0 : 0 < P) (h : P < 2 ^ 31) (hv : ¬ v < 0) : v - v / lN P * lN P = lN (zrs P v) := by
  have hv2 : 0 ≤ v.toInt := by
    rw [Int64.lt_iff_toInt_lt] at hv
    have : (0 : Int64).toInt = 0 := by decide
    omega
  have hlt := zrs_lt h0 v
  refine zl_of (by omega) ?_
  rw [zrem_toInt v h0 h, zrs_i h0, Int.tmod_eq_emod_of_nonneg hv2]
theorem zfm_zero {v : Int64} {P : Nat} (h0 : 0 < P) (h : P < 2 ^ 31) (hr : v - v / lN P * lN P = 0) : v - v / lN P * lN P = lN (zrs P v) := by
  have hlt := zrs_lt h0 v
  refine zl_of (by omega) ?_
  have h1 := zrem_toInt v h0 h
  rw [hr] at h1
  have h2 : v.toInt.tmod (P : Int) = 0 := by rw [← h1]; decide
  have h3 : (P : Int) ∣ v.toInt := Int.dvd_of_tmod_eq_zero h2
  rw [zrem_toInt v h0 h, zrs_i h0, h2, Int.emod_eq_zero_of_dvd h3]
theorem z_em {P : Nat} (h0 : 0 < P) (a : Int) : (a.tmod P + P) % (P : Int) = a % (P : Int) := by
  have e := Int.tmod_add_tdiv_mul a P
  have e2 : a = a.tmod P + P + P * (a.tdiv P - 1) := by grind
  conv => rhs; rw [e2]
  rw [Int.add_mul_emod_self_left]
theorem zfm_neg {v : Int64} {P : Nat} (h0 : 0 < P) (h : P < 2 ^ 31) (hv : v < 0) (hr : ¬ v - v / lN P * lN P = 0) : v - v / lN P * lN P + lN P = lN (zrs P v) := by
  have hv2 : v.toInt < 0 := by
    rw [Int64.lt_iff_toInt_lt] at hv
    have : (0 : Int64).toInt = 0 := by decide
    omega
  have hlt := zrs_lt h0 v
  have h1 := zrem_toInt v h0 h
  have b2 := Int.lt_tmod_of_pos v.toInt (show (0 : Int) < P by omega)
  have b4 := z_tm_nonpos (P : Int) (show v.toInt ≤ 0 by omega)
  have b5 : v.toInt.tmod (P : Int) ≠ 0 := by
    intro q
    rw [q] at h1
    exact hr (Int64.toInt_inj.mp (by rw [h1]; decide))
  refine zl_of (by omega) ?_
  rw [Int64.toInt_add, h1, lN_toInt h, zrs_i h0, ← z_em h0, Int.emod_eq_of_lt (by omega) (by omega)]
  exact Int.bmod_eq_of_le (by omega) (by omega)
theorem zfm_ref {v : Int64} {P : Nat} (h0 : 0 < P) (h : P < 2 ^ 31) : (v - v / lN P * lN P + lN P) - (v - v / lN P * lN P + lN P) / lN P * lN P = lN (zrs P v) := by
  have h1 := zrem_toInt v h0 h
  have b1 := Int.tmod_lt_of_pos v.toInt (show (0 : Int) < P by omega)
  have b2 := Int.lt_tmod_of_pos v.toInt (show (0 : Int) < P by omega)
  have e1 : v - v / lN P * lN P + lN P = lN (v.toInt.tmod P + P).toNat := by
    refine zl_of (by omega) ?_
    rw [Int64.toInt_add, h1, lN_toInt h, Int.bmod_eq_of_le (by omega) (by omega)]
    omega
  rw [e1, pk_lRem (by omega) h0 (by omega)]
  refine congrArg lN ?_
  have e2 : (((v.toInt.tmod P + P).toNat % P : Nat) : Int) = ((zrs P v : Nat) : Int) := by
    rw [Int.natCast_emod, Int.toNat_of_nonneg (by omega), z_em h0, zrs_i h0]
  exact_mod_cast e2
theorem z_neg_msb (v : Int64) : v < 0 ↔ v.toBitVec.msb = true := by
  rw [Int64.lt_iff_toInt_lt, BitVec.msb_eq_toInt]
  have : (0 : Int64).toInt = 0 := by decide
  rw [this]
  simp
theorem z_xor_neg (v : Int64) {P : Nat} (h : P < 2 ^ 31) : (v ^^^ lN P) < 0 ↔ v < 0 := by
  rw [z_neg_msb, z_neg_msb, Int64.toBitVec_xor, BitVec.msb_xor]
  have h2 : (lN P).toBitVec.msb = false := by
    cases hc : (lN P).toBitVec.msb with
    | false => rfl
    | true =>
      have h3 := (z_neg_msb (lN P)).mpr hc
      rw [Int64.lt_iff_toInt_lt, lN_toInt h] at h3
      have : (0 : Int64).toInt = 0 := by decide
      omega
  rw [h2]; simp
/-- products below P -/
theorem z_pr {P a b : Nat} (hP : P ≤ 1000000007) (ha : a < P) (hb : b < P) : lN a * lN b - lN a * lN b / lN P * lN P = lN (a * b % P) := by
  have h1 : a * b ≤ 1000000007 * 1000000007 := Nat.mul_le_mul (by omega) (by omega)
  rw [lN_mul, pk_lRem (by omega) (by omega) (by omega)]
/-- a row whose first n numbers are small -/
def zem (n : Nat) (G : Nat → Nat) (f : Nat → Int64) : Nat → Int64 := fun j => if j < n then lN (G j) else f j
theorem zem_in {n : Nat} {G : Nat → Nat} {f : Nat → Int64} {j : Nat} (h : j < n) : zem n G f j = lN (G j) := by simp [zem, h]
theorem zem_up {n : Nat} {G : Nat → Nat} {f : Nat → Int64} {i v : Nat} (h : i < n) : vp_updL (zem n G f) i (lN v) = zem n (zu G i v) f := by
  funext j
  unfold vp_updL zem zu
  by_cases e : j = i
  · subst e; simp [h]
  · simp [e]
theorem zem_ex {n : Nat} {G G' : Nat → Nat} {f : Nat → Int64} (h : ∀ j, j < n → G j = G' j) : zem n G f = zem n G' f := by
  funext j
  unfold zem
  by_cases e : j < n
  · simp [e, h j e]
  · simp [e]
/-- rows that a loop has come through up to i -/
def zpt (i : Nat) (a b : Nat → Int64) : Nat → Int64 := fun j => if j < i then a j else b j
theorem zpt_0 (a b : Nat → Int64) : zpt 0 a b = b := by funext j; simp [zpt]
theorem zpt_up {i : Nat} {a b : Nat → Int64} {v : Int64} (h : v = a i) : vp_updL (zpt i a b) i v = zpt (i + 1) a b := by
  funext j
  unfold vp_updL zpt
  by_cases e : j = i
  · subst e; simp [h]
  · by_cases e2 : j < i
    · simp [e, e2, Nat.lt_succ_of_lt e2]
    · have : ¬ j < i + 1 := by omega
      simp [e, e2, this]
theorem zpt_at {i : Nat} {a b : Nat → Int64} : zpt i a b i = b i := by simp [zpt]
/-- the reference's sum -/
def zm (P st : Nat) (a : Nat → Nat) : Nat → Nat
  | 0 => 0
  | j + 1 => (zm P st a j + a j * (st ^ j % P)) % P
theorem zm_lt {P st : Nat} {a : Nat → Nat} (hP : 0 < P) (n : Nat) : zm P st a n < P := by
  cases n with
  | zero => exact hP
  | succ n => exact Nat.mod_lt _ hP
theorem zm_cg {P st : Nat} {a : Nat → Nat} : ∀ n : Nat, zc P ((zm P st a n : Nat) : Int) (zs (fun t => ((a t : Nat) : Int) * (st : Int) ^ t) n) := by
  intro n
  induction n with
  | zero => exact zc_rf 0
  | succ n ih =>
    refine zc_tr (zc_mod P _) ?_
    rw [Int.natCast_add, Int.natCast_mul]
    refine zc_add ih (zc_mul (zc_rf _) (zc_tr (zc_mod P _) ?_))
    rw [Int.natCast_pow]
    exact zc_rf _
theorem zm_ex {P st : Nat} {a b : Nat → Nat} {n : Nat} (h : ∀ j, j < n → a j = b j) : ∀ k, k ≤ n → zm P st a k = zm P st b k := by
  intro k
  induction k with
  | zero => intro _; rfl
  | succ k ih =>
    intro hk
    show (zm P st a k + a k * (st ^ k % P)) % P = (zm P st b k + b k * (st ^ k % P)) % P
    rw [ih (by omega), h k (by omega)]
/-- both ways to the transform meet -/
theorem z_meet {P L w : Nat} {a : Nat → Nat} (hP : 0 < P) (hw : L ≠ 0 → zc P ((w : Int) ^ (2 ^ (L - 1))) (-1)) (ha : ∀ j, j < 2 ^ L → a j < P) {k : Nat} (hk : k < 2 ^ L) :
    zft P (2 ^ L) w (zo L a (2 ^ L)) L k = zm P (w ^ k % P) a (2 ^ L) := by
  obtain ⟨h1, h2⟩ := zft_end hP hw (G := zo L a (2 ^ L)) (fun j hj => zo_end hj) ha hk
  refine zc_eq h1 (zm_lt hP _) (zc_tr h2 (zc_sy (zc_tr (zm_cg _) ?_)))
  refine zs_cg fun t _ => ?_
  refine zc_mul (zc_rf _) ?_
  rw [Nat.mul_comm t k, Int.pow_mul]
  refine zc_pow (zc_tr (zc_mod P _) ?_) t
  rw [Int.natCast_pow]
  exact zc_rf _
theorem z_pw {P a : Nat} (k : Nat) : a ^ k % P * a % P = a ^ (k + 1) % P := by
  rw [Nat.pow_succ, Nat.mod_mul_mod]
theorem z_pw2 {P a : Nat} (k : Nat) : a ^ k % P * (a % P) % P = a ^ (k + 1) % P := by
  rw [Nat.pow_succ, ← Nat.mul_mod]
/-- w to the p - 2, halved to -1 as w is -/
theorem z_inv_half {P L w : Nat} (hP : 3 ≤ P) (hodd : P % 2 = 1) (hw : L ≠ 0 → w ^ (2 ^ L / 2) % P = P - 1) : L ≠ 0 → zc P (((w ^ (P - 2) % P : Nat) : Int) ^ (2 ^ (L - 1))) (-1) := by
  intro hL
  have e : 2 ^ L / 2 = 2 ^ (L - 1) := by
    obtain ⟨k, rfl⟩ : ∃ k, L = k + 1 := ⟨L - 1, by omega⟩
    rw [Nat.pow_succ, Nat.mul_div_cancel _ (by omega)]; rfl
  have h1 := hw hL
  rw [e] at h1
  have h2 : zc P ((w : Int) ^ (2 ^ (L - 1))) (-1) := by
    refine zc_tr (zc_sy ?_) (zc_p1 (P := P) (by omega))
    rw [← h1]
    refine zc_tr (zc_mod P _) ?_
    rw [Int.natCast_pow]; exact zc_rf _
  have h3 := zc_pow (zc_mod P (w ^ (P - 2))) (2 ^ (L - 1))
  refine zc_tr h3 ?_
  rw [Int.natCast_pow, ← Int.pow_mul, Nat.mul_comm, Int.pow_mul]
  refine zc_tr (zc_pow h2 (P - 2)) ?_
  obtain ⟨q, hq⟩ : ∃ q, P - 2 = 2 * q + 1 := ⟨(P - 3) / 2, by omega⟩
  rw [hq, Int.pow_succ, Int.pow_mul, show ((-1 : Int) ^ 2) = 1 from rfl, Int.one_pow]
  exact zc_rf _
theorem z_half {P L w : Nat} (hP : 3 ≤ P) (hw : L ≠ 0 → w ^ (2 ^ L / 2) % P = P - 1) : L ≠ 0 → zc P ((w : Int) ^ (2 ^ (L - 1))) (-1) := by
  intro hL
  have e : 2 ^ L / 2 = 2 ^ (L - 1) := by
    obtain ⟨k, rfl⟩ : ∃ k, L = k + 1 := ⟨L - 1, by omega⟩
    rw [Nat.pow_succ, Nat.mul_div_cancel _ (by omega)]; rfl
  have h1 := hw hL
  rw [e] at h1
  refine zc_tr (zc_sy ?_) (zc_p1 (P := P) (by omega))
  rw [← h1]
  refine zc_tr (zc_mod P _) ?_
  rw [Int.natCast_pow]; exact zc_rf _
