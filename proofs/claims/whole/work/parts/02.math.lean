/-! pure mathematics: congruence, sums, binomials, Fermat, an h without a root, bits in reverse, the transform by halves -/
def zc (P : Nat) (a b : Int) : Prop := (P : Int) ∣ a - b
theorem zc_rf {P : Nat} (a : Int) : zc P a a := ⟨0, by grind⟩
theorem zc_sy {P : Nat} {a b : Int} (h : zc P a b) : zc P b a := by
  obtain ⟨k, hk⟩ := h
  exact ⟨-k, by grind⟩
theorem zc_tr {P : Nat} {a b c : Int} (h1 : zc P a b) (h2 : zc P b c) : zc P a c := by
  obtain ⟨k, hk⟩ := h1
  obtain ⟨j, hj⟩ := h2
  exact ⟨k + j, by grind⟩
theorem zc_add {P : Nat} {a b c d : Int} (h1 : zc P a b) (h2 : zc P c d) : zc P (a + c) (b + d) := by
  obtain ⟨k, hk⟩ := h1
  obtain ⟨j, hj⟩ := h2
  exact ⟨k + j, by grind⟩
theorem zc_sub {P : Nat} {a b c d : Int} (h1 : zc P a b) (h2 : zc P c d) : zc P (a - c) (b - d) := by
  obtain ⟨k, hk⟩ := h1
  obtain ⟨j, hj⟩ := h2
  exact ⟨k - j, by grind⟩
theorem zc_mul {P : Nat} {a b c d : Int} (h1 : zc P a b) (h2 : zc P c d) : zc P (a * c) (b * d) := by
  obtain ⟨k, hk⟩ := h1
  obtain ⟨j, hj⟩ := h2
  refine ⟨k * c + b * j, ?_⟩
  have e1 : a * c - b * d = (a - b) * c + b * (c - d) := by grind
  rw [e1, hk, hj]
  grind
theorem zc_pow {P : Nat} {a b : Int} (h : zc P a b) (n : Nat) : zc P (a ^ n) (b ^ n) := by
  induction n with
  | zero => rw [Int.pow_zero, Int.pow_zero]; exact zc_rf 1
  | succ n ih => rw [Int.pow_succ, Int.pow_succ]; exact zc_mul ih h
theorem zc_mod (P a : Nat) : zc P ((a % P : Nat) : Int) (a : Int) := by
  refine ⟨-((a / P : Nat) : Int), ?_⟩
  have h : P * (a / P) + a % P = a := Nat.div_add_mod a P
  have h2 : (P : Int) * ((a / P : Nat) : Int) + ((a % P : Nat) : Int) = (a : Int) := by exact_mod_cast h
  grind
theorem zc_modeq {P a b : Nat} (h : zc P (a : Int) (b : Int)) : a % P = b % P := by
  have h2 : ((a : Int) - b) % (P : Int) = 0 := Int.emod_eq_zero_of_dvd h
  have h3 := Int.emod_eq_emod_iff_emod_sub_eq_zero.mpr h2
  exact_mod_cast h3
theorem zc_eq {P a b : Nat} (ha : a < P) (hb : b < P) (h : zc P (a : Int) (b : Int)) : a = b := by
  have := zc_modeq h
  rwa [Nat.mod_eq_of_lt ha, Nat.mod_eq_of_lt hb] at this
theorem zc_of_modeq {P a b : Nat} (h : a % P = b % P) : zc P (a : Int) (b : Int) := by
  refine zc_tr (zc_sy (zc_mod P a)) ?_
  rw [h]
  exact zc_mod P b
theorem zc_p1 {P : Nat} (h : 1 ≤ P) : zc P ((P - 1 : Nat) : Int) (-1) := ⟨1, by omega⟩
def zs (f : Nat → Int) : Nat → Int
  | 0 => 0
  | n + 1 => zs f n + f n
theorem zs_congr {f g : Nat → Int} {n : Nat} (h : ∀ i, i < n → f i = g i) : zs f n = zs g n := by
  induction n with
  | zero => rfl
  | succ n ih =>
    show zs f n + f n = zs g n + g n
    rw [ih (fun i hi => h i (by omega)), h n (by omega)]
theorem zs_cg {P : Nat} {f g : Nat → Int} {n : Nat} (h : ∀ i, i < n → zc P (f i) (g i)) : zc P (zs f n) (zs g n) := by
  induction n with
  | zero => exact zc_rf 0
  | succ n ih => exact zc_add (ih (fun i hi => h i (by omega))) (h n (by omega))
theorem zs_add (f g : Nat → Int) (n : Nat) : zs (fun i => f i + g i) n = zs f n + zs g n := by
  induction n with
  | zero => rfl
  | succ n ih =>
    show zs _ n + (f n + g n) = zs f n + f n + (zs g n + g n)
    rw [ih]; grind
theorem zs_mul (c : Int) (f : Nat → Int) (n : Nat) : zs (fun i => c * f i) n = c * zs f n := by
  induction n with
  | zero => exact (Int.mul_zero c).symm
  | succ n ih =>
    show zs _ n + c * f n = c * (zs f n + f n)
    rw [ih]; grind
theorem zs_shift (f : Nat → Int) (n : Nat) : zs f (n + 1) = f 0 + zs (fun i => f (i + 1)) n := by
  induction n with
  | zero => show (0 : Int) + f 0 = f 0 + 0; omega
  | succ n ih =>
    show zs f (n + 1) + f (n + 1) = f 0 + (zs (fun i => f (i + 1)) n + f (n + 1))
    rw [ih]; omega
theorem zs_eo (f : Nat → Int) (n : Nat) : zs f (2 * n) = zs (fun i => f (2 * i)) n + zs (fun i => f (2 * i + 1)) n := by
  induction n with
  | zero => rfl
  | succ n ih =>
    show zs f (2 * n) + f (2 * n) + f (2 * n + 1) = (zs _ n + f (2 * n)) + (zs _ n + f (2 * n + 1))
    rw [ih]; omega
def zb : Nat → Nat → Nat
  | _, 0 => 1
  | 0, _ + 1 => 0
  | n + 1, k + 1 => zb n k + zb n (k + 1)
theorem zb_0 (n : Nat) : zb n 0 = 1 := by cases n <;> rfl
theorem zb_gt : ∀ (n k : Nat), n < k → zb n k = 0 := by
  intro n
  induction n with
  | zero => intro k h; cases k with
    | zero => omega
    | succ k => rfl
  | succ n ih => intro k h; cases k with
    | zero => omega
    | succ k =>
      show zb n k + zb n (k + 1) = 0
      rw [ih k (by omega), ih (k + 1) (by omega)]
theorem zb_self (n : Nat) : zb n n = 1 := by
  induction n with
  | zero => rfl
  | succ n ih =>
    show zb n n + zb n (n + 1) = 1
    rw [ih, zb_gt n (n + 1) (by omega)]
theorem zb_id : ∀ (n k : Nat), (k + 1) * zb (n + 1) (k + 1) = (n + 1) * zb n k := by
  intro n
  induction n with
  | zero =>
    intro k
    cases k with
    | zero => rfl
    | succ k =>
      have h1 : zb (0 + 1) (k + 1 + 1) = 0 := zb_gt _ _ (by omega)
      have h2 : zb 0 (k + 1) = 0 := rfl
      rw [h1, h2]; simp
  | succ n ih =>
    intro k
    have e : zb (n + 1 + 1) (k + 1) = zb (n + 1) k + zb (n + 1) (k + 1) := rfl
    rw [e]
    cases k with
    | zero =>
      have h1 := ih 0
      rw [zb_0] at h1
      rw [zb_0]
      grind
    | succ k =>
      have h1 := ih k
      have h2 := ih (k + 1)
      have e2 : zb (n + 1) (k + 1) = zb n k + zb n (k + 1) := rfl
      grind
theorem z_binom (x : Int) : ∀ n : Nat, (x + 1) ^ n = zs (fun k => (zb n k : Int) * x ^ k) (n + 1) := by
  intro n
  induction n with
  | zero => rw [Int.pow_zero]; show (1 : Int) = 0 + ((zb 0 0 : Nat) : Int) * x ^ 0; rw [Int.pow_zero, zb_0]; rfl
  | succ n ih =>
    have h1 : zs (fun k => (zb (n + 1) k : Int) * x ^ k) (n + 1 + 1) = 1 + zs (fun k => ((zb n k : Int) * x ^ (k + 1)) + ((zb n (k + 1) : Int) * x ^ (k + 1))) (n + 1) := by
      rw [zs_shift]
      have e0 : ((zb (n + 1) 0 : Nat) : Int) * x ^ 0 = 1 := by rw [zb_0]; simp
      rw [e0]
      refine congrArg (fun y => 1 + y) (zs_congr fun i _ => ?_)
      have e : zb (n + 1) (i + 1) = zb n i + zb n (i + 1) := rfl
      rw [e]
      have e3 : ((zb n i + zb n (i + 1) : Nat) : Int) = (zb n i : Int) + (zb n (i + 1) : Int) := Int.natCast_add _ _
      rw [e3]; grind
    have h2 : zs (fun k => (zb n k : Int) * x ^ k) (n + 1 + 1) = 1 + zs (fun k => (zb n (k + 1) : Int) * x ^ (k + 1)) (n + 1) := by
      rw [zs_shift]
      have e0 : ((zb n 0 : Nat) : Int) * x ^ 0 = 1 := by rw [zb_0]; simp
      rw [e0]
    have h3 : zs (fun k => (zb n k : Int) * x ^ k) (n + 1 + 1) = zs (fun k => (zb n k : Int) * x ^ k) (n + 1) := by
      show zs _ (n + 1) + ((zb n (n + 1) : Nat) : Int) * x ^ (n + 1) = _
      rw [zb_gt n (n + 1) (by omega)]; simp
    have h4 : zs (fun k => (zb n k : Int) * x ^ (k + 1)) (n + 1) = x * zs (fun k => (zb n k : Int) * x ^ k) (n + 1) := by
      rw [← zs_mul]
      refine zs_congr fun i _ => ?_
      rw [Int.pow_succ]; grind
    rw [h1, zs_add, h4, Int.pow_succ, ih]
    rw [h3] at h2
    grind
def zpr (P : Nat) : Prop := 2 ≤ P ∧ ∀ d, d ∣ P → d = 1 ∨ d = P
theorem z_euclid {P : Nat} (hp : zpr P) {a b : Int} (h : (P : Int) ∣ a * b) : (P : Int) ∣ a ∨ (P : Int) ∣ b := by
  have h1 : P ∣ a.natAbs * b.natAbs := by
    rw [← Int.natAbs_mul]
    exact Int.ofNat_dvd_left.mp h
  by_cases ha : P ∣ a.natAbs
  · exact Or.inl (Int.ofNat_dvd_left.mpr ha)
  · right
    refine Int.ofNat_dvd_left.mpr ?_
    have hc : Nat.Coprime P a.natAbs := by
      rcases hp.2 (Nat.gcd P a.natAbs) (Nat.gcd_dvd_left _ _) with q | q
      · exact q
      · exact absurd (q ▸ Nat.gcd_dvd_right P a.natAbs) ha
    exact hc.dvd_of_dvd_mul_left h1
theorem z_nd {P : Nat} {y : Int} (h0 : y ≠ 0) (h1 : -(P : Int) < y) (h2 : y < (P : Int)) : ¬ (P : Int) ∣ y := by
  intro h
  have h3 := Int.ofNat_dvd_left.mp h
  have h4 : y.natAbs < P := by omega
  have h5 : 0 < y.natAbs := by omega
  exact absurd (Nat.le_of_dvd h5 h3) (by omega)
theorem z_fermat {P : Nat} (hp : zpr P) : ∀ a : Nat, zc P ((a : Int) ^ P) (a : Int) := by
  intro a
  obtain ⟨m, rfl⟩ : ∃ m, P = m + 1 := ⟨P - 1, by have := hp.1; omega⟩
  induction a with
  | zero => rw [Int.pow_succ]; simp; exact zc_rf 0
  | succ a ih =>
    have e : ((a + 1 : Nat) : Int) = (a : Int) + 1 := Int.natCast_add _ _
    rw [e, z_binom]
    have e2 : zs (fun k => (zb (m + 1) k : Int) * (a : Int) ^ k) (m + 1 + 1) = zs (fun k => (zb (m + 1) k : Int) * (a : Int) ^ k) (m + 1) + ((zb (m + 1) (m + 1) : Nat) : Int) * (a : Int) ^ (m + 1) := rfl
    rw [e2, zb_self, zs_shift, zb_0]
    have h0 : zc (m + 1) (zs (fun i => ((zb (m + 1) (i + 1) : Nat) : Int) * (a : Int) ^ (i + 1)) m) (zs (fun _ => 0) m) := by
      refine zs_cg fun i hi => ?_
      have hd : ((m + 1 : Nat) : Int) ∣ ((zb (m + 1) (i + 1) : Nat) : Int) := by
        have h1 : ((m + 1 : Nat) : Int) ∣ ((i + 1 : Nat) : Int) * ((zb (m + 1) (i + 1) : Nat) : Int) := by
          rw [← Int.natCast_mul, zb_id, Int.natCast_mul]
          exact ⟨_, rfl⟩
        rcases z_euclid hp h1 with q | q
        · exact absurd q (z_nd (by omega) (by omega) (by omega))
        · exact q
      obtain ⟨k, hk⟩ := hd
      exact ⟨k * (a : Int) ^ (i + 1), by rw [hk]; grind⟩
    have h1 : zs (fun _ => (0 : Int)) m = 0 := by
      have := zs_mul 0 (fun _ => 0) m
      simpa using this
    rw [h1] at h0
    have h2 := zc_add (zc_add (zc_rf (P := m + 1) (((1 : Nat) : Int) * (a : Int) ^ 0)) h0) (zc_mul (zc_rf (P := m + 1) ((1 : Nat) : Int)) ih)
    refine zc_tr h2 ?_
    refine ⟨0, ?_⟩
    simp
    omega
def zq : Nat → (Int → Int) → Prop
  | 0, f => ∀ x, f x = 1
  | d + 1, f => ∀ a, ∃ g, zq d g ∧ ∀ x, f x - f a = (x - a) * g x
theorem zq_lin : ∀ (d : Nat) (f g : Int → Int) (c : Int), zq (d + 1) f → zq d g → zq (d + 1) (fun x => f x + c * g x) := by
  intro d
  induction d with
  | zero =>
    intro f g c hf hg a
    obtain ⟨f1, h1, h2⟩ := hf a
    refine ⟨f1, h1, fun x => ?_⟩
    have e1 : g x = 1 := hg x
    have e2 : g a = 1 := hg a
    have e3 := h2 x
    show f x + c * g x - (f a + c * g a) = (x - a) * f1 x
    rw [e1, e2, ← e3]; grind
  | succ d ih =>
    intro f g c hf hg a
    obtain ⟨f1, h1, h2⟩ := hf a
    obtain ⟨g1, k1, k2⟩ := hg a
    refine ⟨fun x => f1 x + c * g1 x, ih f1 g1 c h1 k1, fun x => ?_⟩
    have e3 := h2 x
    have e4 := k2 x
    show f x + c * g x - (f a + c * g a) = (x - a) * (f1 x + c * g1 x)
    grind
theorem zq_mulx : ∀ (d : Nat) (f : Int → Int), zq d f → zq (d + 1) (fun x => f x * x) := by
  intro d
  cases d with
  | zero =>
    intro f hf a
    refine ⟨f, hf, fun x => ?_⟩
    have e1 : f x = 1 := hf x
    have e2 : f a = 1 := hf a
    show f x * x - f a * a = (x - a) * f x
    rw [e1, e2]; grind
  | succ d =>
    intro f hf a
    obtain ⟨g, h1, h2⟩ := hf a
    refine ⟨fun x => f x + a * g x, zq_lin d f g a hf h1, fun x => ?_⟩
    have e3 := h2 x
    show f x * x - f a * a = (x - a) * (f x + a * g x)
    grind
theorem zq_pow : ∀ m : Nat, zq m (fun x => x ^ m) := by
  intro m
  induction m with
  | zero => intro x; exact Int.pow_zero x
  | succ m ih =>
    have h := zq_mulx m _ ih
    have e : (fun x : Int => x ^ (m + 1)) = (fun x => x ^ m * x) := funext fun x => Int.pow_succ x m
    rw [e]; exact h
theorem zq_sh {d : Nat} {f : Int → Int} (c : Int) (h : zq (d + 1) f) : zq (d + 1) (fun x => f x - c) := by
  intro a
  obtain ⟨g, h1, h2⟩ := h a
  refine ⟨g, h1, fun x => ?_⟩
  have := h2 x
  show f x - c - (f a - c) = _
  rw [← this]; omega
theorem zq_root {P : Nat} (hp : zpr P) : ∀ (d : Nat) (f : Int → Int), zq d f → d < P → ∀ lo : Int, (∀ i : Nat, i ≤ d → (P : Int) ∣ f (lo + i)) → False := by
  intro d
  induction d with
  | zero =>
    intro f hf hd lo h
    have h1 := h 0 (by omega)
    rw [show f (lo + ((0 : Nat) : Int)) = 1 from hf _] at h1
    exact z_nd (by decide) (by have := hp.1; omega) (by have := hp.1; omega) h1
  | succ d ih =>
    intro f hf hd lo h
    obtain ⟨g, h1, h2⟩ := hf (lo + ((d + 1 : Nat) : Int))
    refine ih g h1 (by omega) lo fun i hi => ?_
    have e := h2 (lo + i)
    have h3 : (P : Int) ∣ (lo + (i : Int) - (lo + ((d + 1 : Nat) : Int))) * g (lo + i) := by
      rw [← e]
      exact Int.dvd_sub (h i (by omega)) (h (d + 1) (by omega))
    rcases z_euclid hp h3 with q | q
    · exact absurd q (z_nd (by omega) (by omega) (by omega))
    · exact q
theorem z_nonres {P : Nat} (hp : zpr P) (h3 : 3 ≤ P) {m : Nat} (hm : 2 * m + 1 = P) : ∃ h : Nat, 2 ≤ h ∧ h < P ∧ zc P ((h : Int) ^ m) (-1) := by
  refine Classical.byContradiction fun hno => ?_
  have key : ∀ h : Nat, 1 ≤ h → h < P → (P : Int) ∣ (h : Int) ^ m - 1 := by
    intro h h1 h2
    by_cases e : h = 1
    · subst e; rw [show ((1 : Nat) : Int) = 1 from rfl, Int.one_pow]; exact ⟨0, by omega⟩
    have hf := z_fermat hp h
    have e1 : (h : Int) ^ P - h = (h : Int) * (((h : Int) ^ m - 1) * ((h : Int) ^ m + 1)) := by
      rw [← hm, Int.pow_succ, Nat.mul_comm 2 m, Int.pow_mul]
      grind
    have hf2 : (P : Int) ∣ (h : Int) ^ P - h := hf
    rw [e1] at hf2
    rcases z_euclid hp hf2 with q | q
    · exact absurd q (z_nd (by omega) (by omega) (by omega))
    · rcases z_euclid hp q with r | r
      · exact r
      · exact absurd ⟨h, by omega, h2, by show (P : Int) ∣ (h : Int) ^ m - (-1); rw [Int.sub_neg]; exact r⟩ hno
  obtain ⟨m', rfl⟩ : ∃ k, m = k + 1 := ⟨m - 1, by omega⟩
  refine zq_root hp (m' + 1) (fun x => x ^ (m' + 1) - 1) (zq_sh 1 (zq_pow (m' + 1))) (by omega) 1 fun i hi => ?_
  have := key (i + 1) (by omega) (by omega)
  have e : ((i + 1 : Nat) : Int) = 1 + (i : Int) := by omega
  rw [e] at this
  exact this

/-- a number without a divisor up to its root is prime -/
def ztd (P : Nat) : Prop := ∀ d, 2 ≤ d → d * d ≤ P → ¬ d ∣ P
theorem ztd_pr {P : Nat} (h2 : 2 ≤ P) (h : ztd P) : zpr P := by
  refine ⟨h2, fun d hd => ?_⟩
  obtain ⟨e, he⟩ := hd
  by_cases d1 : d = 1
  · exact Or.inl d1
  by_cases dp : d = P
  · exact Or.inr dp
  exfalso
  have d0 : d ≠ 0 := by intro q; subst q; simp at he; omega
  have e0 : e ≠ 0 := by intro q; subst q; simp at he; omega
  have e1 : e ≠ 1 := by intro q; subst q; simp at he; omega
  by_cases hc : d * d ≤ P
  · exact h d (by omega) hc ⟨e, he⟩
  · have hlt : e < d := by
      rcases Nat.lt_or_ge e d with q | q
      · exact q
      · exact absurd (by rw [he]; exact Nat.mul_le_mul_left d q) hc
    refine h e (by omega) ?_ ⟨d, by rw [he, Nat.mul_comm]⟩
    rw [he]
    exact Nat.mul_le_mul_right e (Nat.le_of_lt hlt)
def zhit (N P h : Nat) : Prop := (h ^ ((P - 1) / N) % P) ^ (N / 2) % P = P - 1
def zW (N P w : Nat) : Prop := (N = 1 ∧ w = 1) ∨ (2 ≤ N ∧ ∃ h, 2 ≤ h ∧ h < P ∧ zhit N P h ∧ (∀ j, 2 ≤ j → j < h → ¬ zhit N P j) ∧ w = h ^ ((P - 1) / N) % P)
theorem zW_lt {N P w : Nat} (hP : 3 ≤ P) (h : zW N P w) : w < P := by
  rcases h with ⟨-, rfl⟩ | ⟨-, h, -, -, -, -, rfl⟩
  · omega
  · exact Nat.mod_lt _ (by omega)
theorem zW_half {N P w : Nat} (hN : 2 ≤ N) (h : zW N P w) : w ^ (N / 2) % P = P - 1 := by
  rcases h with ⟨h1, -⟩ | ⟨-, h, -, -, hh, -, rfl⟩
  · omega
  · exact hh
theorem zW_ex {N' P : Nat} (hp : zpr P) (h3 : 3 ≤ P) (hd : 2 * N' ∣ P - 1) (hN : 1 ≤ N') : ∃ w, zW (2 * N') P w := by
  obtain ⟨q, hq⟩ := hd
  have hm : 2 * (N' * q) + 1 = P := by rw [← Nat.mul_assoc]; omega
  obtain ⟨h, a1, a2, a3⟩ := z_nonres hp h3 hm
  have hh : zhit (2 * N') P h := by
    unfold zhit
    have e1 : (P - 1) / (2 * N') = q := by rw [hq]; exact Nat.mul_div_cancel_left q (by omega)
    have e2 : 2 * N' / 2 = N' := Nat.mul_div_cancel_left N' (by omega)
    rw [e1, e2]
    have e3 : zc P (((h ^ q % P) ^ N' : Nat) : Int) ((P - 1 : Nat) : Int) := by
      refine zc_tr ?_ (zc_sy (zc_p1 (by omega)))
      refine zc_tr ?_ a3
      rw [Nat.mul_comm N' q, Int.pow_mul, Int.natCast_pow]
      refine zc_pow ?_ N'
      refine zc_tr (zc_mod P (h ^ q)) ?_
      rw [Int.natCast_pow]
      exact zc_rf _
    rw [zc_modeq e3]
    exact Nat.mod_eq_of_lt (by omega)
  obtain ⟨k, ⟨k1, k2⟩, k3⟩ := pk_least (fun h => 2 ≤ h ∧ zhit (2 * N') P h) ⟨h, a1, hh⟩
  have hkh : k ≤ h := by
    rcases Nat.lt_or_ge h k with c | c
    · exact absurd ⟨a1, hh⟩ (k3 h c)
    · exact c
  exact ⟨_, Or.inr ⟨by omega, k, k1, by omega, k2, fun j j1 j2 j3 => k3 j j2 ⟨j1, j3⟩, rfl⟩⟩
theorem zW_un {N P w v : Nat} (h : zW N P w) (g : zW N P v) : w = v := by
  rcases h with ⟨a, rfl⟩ | ⟨a, h, a1, a2, a3, a4, rfl⟩
  · rcases g with ⟨-, rfl⟩ | ⟨b, -⟩
    · rfl
    · omega
  · rcases g with ⟨b, -⟩ | ⟨b, k, b1, b2, b3, b4, rfl⟩
    · omega
    · have : h = k := by
        rcases Nat.lt_trichotomy h k with c | c | c
        · exact absurd a3 (b4 h a1 c)
        · exact c
        · exact absurd b3 (a4 k b1 c)
      rw [this]
