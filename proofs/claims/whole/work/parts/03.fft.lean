/-! bits in reverse, and the transform by halves -/
def zr : Nat → Nat → Nat
  | 0, _ => 0
  | s + 1, k => 2 * zr s k + k / 2 ^ s % 2
theorem zr_low (b c : Nat) (hc : c < 2) : ∀ m : Nat, zr (m + 1) (2 * b + c) = c * 2 ^ m + zr m b := by
  intro m
  induction m with
  | zero =>
    show 2 * 0 + (2 * b + c) / 2 ^ 0 % 2 = c * 2 ^ 0 + 0
    rw [Nat.pow_zero, Nat.div_one]; omega
  | succ m ih =>
    show 2 * zr (m + 1) (2 * b + c) + (2 * b + c) / 2 ^ (m + 1) % 2 = c * 2 ^ (m + 1) + (2 * zr m b + b / 2 ^ m % 2)
    have e : (2 * b + c) / 2 ^ (m + 1) = b / 2 ^ m := by
      rw [Nat.pow_succ', ← Nat.div_div_eq_div_mul]
      congr 1; omega
    rw [ih, e, Nat.pow_succ]; grind
theorem zr_hi (c : Nat) : ∀ (m k : Nat), zr m (k + c * 2 ^ m) = zr m k := by
  intro m
  induction m generalizing c with
  | zero => intro k; rfl
  | succ m ih =>
    intro k
    show 2 * zr m (k + c * 2 ^ (m + 1)) + (k + c * 2 ^ (m + 1)) / 2 ^ m % 2 = 2 * zr m k + k / 2 ^ m % 2
    have e : c * 2 ^ (m + 1) = (2 * c) * 2 ^ m := by rw [Nat.pow_succ]; grind
    rw [e, ih (2 * c) k, Nat.add_mul_div_right _ _ (Nat.two_pow_pos m)]
    omega
theorem zr_lt : ∀ m k : Nat, zr m k < 2 ^ m := by
  intro m k
  induction m with
  | zero => exact Nat.one_pos
  | succ m ih =>
    show 2 * zr m k + k / 2 ^ m % 2 < 2 ^ (m + 1)
    rw [Nat.pow_succ]; omega
theorem zr_inv : ∀ m k : Nat, k < 2 ^ m → zr m (zr m k) = k := by
  intro m
  induction m with
  | zero => intro k h; rw [Nat.pow_zero] at h; show 0 = k; omega
  | succ m ih =>
    intro k h
    have e : k = 2 * (k / 2) + k % 2 := by omega
    have e1 : zr (m + 1) k = k % 2 * 2 ^ m + zr m (k / 2) := by
      have := zr_low (k / 2) (k % 2) (by omega) m
      rwa [← e] at this
    have hk : k / 2 < 2 ^ m := by rw [Nat.pow_succ] at h; omega
    rw [e1]
    show 2 * zr m (k % 2 * 2 ^ m + zr m (k / 2)) + (k % 2 * 2 ^ m + zr m (k / 2)) / 2 ^ m % 2 = k
    rw [Nat.add_comm (k % 2 * 2 ^ m), zr_hi, ih _ hk, Nat.add_mul_div_right _ _ (Nat.two_pow_pos m), Nat.div_eq_of_lt (zr_lt m _)]
    omega
def zu (G : Nat → Nat) (i v : Nat) : Nat → Nat := fun t => if t = i then v else G t
theorem zu_s {G : Nat → Nat} {i v : Nat} : zu G i v i = v := by simp [zu]
theorem zu_n {G : Nat → Nat} {i v t : Nat} (h : t ≠ i) : zu G i v t = G t := by simp [zu, h]
/-- reorder: the state at k = i -/
def zo (L : Nat) (G : Nat → Nat) : Nat → (Nat → Nat)
  | 0 => G
  | i + 1 => if i < zr L i then zu (zu (zo L G i) i (zo L G i (zr L i))) (zr L i) (zo L G i i) else zo L G i
theorem zo_at {L : Nat} {G : Nat → Nat} : ∀ i : Nat, i ≤ 2 ^ L → ∀ j, j < 2 ^ L → zo L G i j = if j < i ∨ zr L j < i then G (zr L j) else G j := by
  intro i
  induction i with
  | zero => intro _ j hj; rw [if_neg (by omega)]; rfl
  | succ i ih =>
    intro hi j hj
    have ih := ih (by omega)
    have hm : zr L i < 2 ^ L := zr_lt L i
    have hinv : zr L (zr L i) = i := zr_inv L i (by omega)
    have hjj : zr L (zr L j) = j := zr_inv L j hj
    show (if i < zr L i then zu (zu (zo L G i) i (zo L G i (zr L i))) (zr L i) (zo L G i i) else zo L G i) j = _
    by_cases c : i < zr L i
    · rw [if_pos c]
      by_cases j1 : j = zr L i
      · subst j1
        rw [zu_s, ih i (by omega), if_neg (by omega), hinv, if_pos (Or.inr (by omega))]
      · rw [zu_n j1]
        by_cases j2 : j = i
        · subst j2
          rw [zu_s, ih _ hm, hinv, if_neg (by omega), if_pos (Or.inl (by omega))]
        · rw [zu_n j2, ih j hj]
          have : zr L j ≠ i := by intro q; exact j1 (by rw [← q, hjj])
          by_cases d : j < i ∨ zr L j < i
          · rw [if_pos d, if_pos (by omega)]
          · rw [if_neg d, if_neg (by omega)]
    · rw [if_neg c, ih j hj]
      by_cases d : j < i ∨ zr L j < i
      · rw [if_pos d, if_pos (by omega)]
      · rw [if_neg d]
        by_cases j2 : j = i
        · subst j2
          have : zr L j = j := by omega
          rw [if_pos (by omega), this]
        · have : zr L j ≠ i := by
            intro q
            have : zr L i = j := by rw [← q, hjj]
            omega
          rw [if_neg (by omega)]
theorem zo_end {L : Nat} {G : Nat → Nat} {j : Nat} (hj : j < 2 ^ L) : zo L G (2 ^ L) j = G (zr L j) := by
  rw [zo_at _ (Nat.le_refl _) j hj, if_pos (Or.inl hj)]
/-- one pair joined; all pairs of one place; all places of one level; all levels -/
def zp1 (P h fac k : Nat) (G : Nat → Nat) : Nat → Nat := zu (zu G k ((G k + G (k + h) * fac % P) % P)) (k + h) ((G k + P - G (k + h) * fac % P) % P)
def zps (P h fac j : Nat) (G : Nat → Nat) : Nat → (Nat → Nat)
  | 0 => G
  | b + 1 => zp1 P h fac (b * (2 * h) + j) (zps P h fac j G b)
def zlv (P h st B : Nat) (G : Nat → Nat) : Nat → (Nat → Nat)
  | 0 => G
  | j + 1 => zps P h (st ^ j % P) j (zlv P h st B G j) B
def zft (P N w : Nat) (G : Nat → Nat) : Nat → (Nat → Nat)
  | 0 => G
  | s + 1 => zlv P (2 ^ s) (w ^ (N / (2 * 2 ^ s)) % P) (N / (2 * 2 ^ s)) (zft P N w G s) (2 ^ s)
theorem z_ml {b B : Nat} (H : Nat) (h : b < B) : b * H + H ≤ B * H := by
  have := Nat.mul_le_mul_right H (show b + 1 ≤ B from h)
  rwa [Nat.add_mul, Nat.one_mul] at this
theorem zps_at {P h fac j : Nat} {G : Nat → Nat} (hj : j < h) : ∀ B : Nat,
    (∀ b, b < B → zps P h fac j G B (b * (2 * h) + j) = (G (b * (2 * h) + j) + G (b * (2 * h) + j + h) * fac % P) % P ∧ zps P h fac j G B (b * (2 * h) + j + h) = (G (b * (2 * h) + j) + P - G (b * (2 * h) + j + h) * fac % P) % P) ∧
    (∀ t, (∀ b, b < B → t ≠ b * (2 * h) + j ∧ t ≠ b * (2 * h) + j + h) → zps P h fac j G B t = G t) := by
  intro B
  induction B with
  | zero => exact ⟨fun b hb => absurd hb (by omega), fun t _ => rfl⟩
  | succ B ih =>
    obtain ⟨i1, i2⟩ := ih
    have o1 : zps P h fac j G B (B * (2 * h) + j) = G (B * (2 * h) + j) := i2 _ fun b hb => by
      have := z_ml (2 * h) hb
      omega
    have o2 : zps P h fac j G B (B * (2 * h) + j + h) = G (B * (2 * h) + j + h) := i2 _ fun b hb => by
      have := z_ml (2 * h) hb
      omega
    refine ⟨fun b hb => ?_, fun t ht => ?_⟩
    · by_cases e : b = B
      · subst e
        constructor
        · show zu (zu (zps P h fac j G b) _ _) _ _ _ = _
          rw [zu_n (by omega), zu_s, o1, o2]
        · show zu (zu (zps P h fac j G b) _ _) _ _ _ = _
          rw [zu_s, o1, o2]
      · have hb2 : b < B := by omega
        have := z_ml (2 * h) hb2
        constructor
        · show zu (zu (zps P h fac j G B) _ _) _ _ _ = _
          rw [zu_n (by omega), zu_n (by omega)]
          exact (i1 b hb2).1
        · show zu (zu (zps P h fac j G B) _ _) _ _ _ = _
          rw [zu_n (by omega), zu_n (by omega)]
          exact (i1 b hb2).2
    · show zu (zu (zps P h fac j G B) _ _) _ _ _ = _
      rw [zu_n (ht B (by omega)).2, zu_n (ht B (by omega)).1]
      exact i2 t fun b hb => ht b (by omega)
theorem zlv_at {P h st B : Nat} {G : Nat → Nat} : ∀ j : Nat, j ≤ h → ∀ b r, b < B → r < h →
    (r < j → zlv P h st B G j (b * (2 * h) + r) = (G (b * (2 * h) + r) + G (b * (2 * h) + r + h) * (st ^ r % P) % P) % P ∧ zlv P h st B G j (b * (2 * h) + r + h) = (G (b * (2 * h) + r) + P - G (b * (2 * h) + r + h) * (st ^ r % P) % P) % P) ∧
    (j ≤ r → zlv P h st B G j (b * (2 * h) + r) = G (b * (2 * h) + r) ∧ zlv P h st B G j (b * (2 * h) + r + h) = G (b * (2 * h) + r + h)) := by
  intro j
  induction j with
  | zero => intro _ b r hb hr; exact ⟨fun h => absurd h (by omega), fun _ => ⟨rfl, rfl⟩⟩
  | succ j ih =>
    intro hj b r hb hr
    have ih := ih (by omega)
    obtain ⟨p1, p2⟩ := zps_at (P := P) (fac := st ^ j % P) (G := zlv P h st B G j) (show j < h by omega) B
    have far : r ≠ j → ∀ b', b' < B → (b * (2 * h) + r ≠ b' * (2 * h) + j ∧ b * (2 * h) + r ≠ b' * (2 * h) + j + h) ∧ (b * (2 * h) + r + h ≠ b' * (2 * h) + j ∧ b * (2 * h) + r + h ≠ b' * (2 * h) + j + h) := by
      intro hrj b' hb'
      rcases Nat.lt_trichotomy b b' with c | c | c
      · have := z_ml (2 * h) c; omega
      · subst c; omega
      · have := z_ml (2 * h) c; omega
    refine ⟨fun hr2 => ?_, fun hr2 => ?_⟩
    · by_cases e : r = j
      · subst e
        obtain ⟨q1, q2⟩ := p1 b hb
        obtain ⟨-, i2⟩ := ih b r hb hr
        obtain ⟨v1, v2⟩ := i2 (Nat.le_refl _)
        rw [v1, v2] at q1 q2
        exact ⟨q1, q2⟩
      · obtain ⟨i1, -⟩ := ih b r hb hr
        obtain ⟨v1, v2⟩ := i1 (by omega)
        constructor
        · show zps P h (st ^ j % P) j (zlv P h st B G j) B _ = _
          rw [p2 _ fun b' hb' => (far e b' hb').1, v1]
        · show zps P h (st ^ j % P) j (zlv P h st B G j) B _ = _
          rw [p2 _ fun b' hb' => (far e b' hb').2, v2]
    · obtain ⟨-, i2⟩ := ih b r hb hr
      obtain ⟨v1, v2⟩ := i2 (by omega)
      have e : r ≠ j := by omega
      constructor
      · show zps P h (st ^ j % P) j (zlv P h st B G j) B _ = _
        rw [p2 _ fun b' hb' => (far e b' hb').1, v1]
      · show zps P h (st ^ j % P) j (zlv P h st B G j) B _ = _
        rw [p2 _ fun b' hb' => (far e b' hb').2, v2]
theorem z_n1 {P a b c : Nat} (hP : 0 < P) {x y : Int} (ha : zc P (a : Int) x) (hb : zc P ((b : Int) * (c : Int)) y) : zc P (((a + b * c % P) % P : Nat) : Int) (x + y) := by
  refine zc_tr (zc_mod P _) ?_
  rw [Int.natCast_add]
  refine zc_add ha (zc_tr (zc_mod P _) ?_)
  rw [Int.natCast_mul]; exact hb
theorem z_n2 {P a b c : Nat} (hP : 0 < P) {x y : Int} (ha : zc P (a : Int) x) (hb : zc P ((b : Int) * (c : Int)) y) : zc P (((a + P - b * c % P) % P : Nat) : Int) (x - y) := by
  refine zc_tr (zc_mod P _) ?_
  have hlt := Nat.mod_lt (b * c) hP
  have e : ((a + P - b * c % P : Nat) : Int) = (a : Int) + (P : Int) - ((b * c % P : Nat) : Int) := by omega
  rw [e]
  have h1 : zc P ((a : Int) + (P : Int)) x := zc_tr ⟨1, by omega⟩ ha
  refine zc_sub h1 (zc_tr (zc_mod P _) ?_)
  rw [Int.natCast_mul]; exact hb
/-- the level s of the transform: blocks of 2^s, each the transform of every 2^m-th number -/
theorem zft_at {P L w : Nat} {a : Nat → Nat} (hP : 0 < P) (hw : L ≠ 0 → zc P ((w : Int) ^ (2 ^ (L - 1))) (-1)) {G : Nat → Nat} (hG : ∀ j, j < 2 ^ L → G j = a (zr L j)) (ha : ∀ j, j < 2 ^ L → a j < P) :
    ∀ s m : Nat, s + m = L → ∀ b j, b < 2 ^ m → j < 2 ^ s → zft P (2 ^ L) w G s (b * 2 ^ s + j) < P ∧
      zc P ((zft P (2 ^ L) w G s (b * 2 ^ s + j) : Nat) : Int) (zs (fun t => ((a (zr m b + t * 2 ^ m) : Nat) : Int) * (w : Int) ^ (2 ^ m * (t * j))) (2 ^ s)) := by
  intro s
  induction s with
  | zero =>
    intro m hm b j hb hj
    have hm : m = L := by omega
    subst hm
    have j0 : j = 0 := by rw [Nat.pow_zero] at hj; omega
    subst j0
    rw [Nat.pow_zero, Nat.mul_one, Nat.add_zero]
    show G b < P ∧ zc P ((G b : Nat) : Int) (0 + ((a (zr m b + 0 * 2 ^ m) : Nat) : Int) * (w : Int) ^ (2 ^ m * (0 * 0)))
    rw [hG b hb]
    refine ⟨ha _ (zr_lt _ _), ?_⟩
    simp
    exact zc_rf _
  | succ s ih =>
    intro m hm b j hb hj
    have ih := ih (m + 1) (by omega)
    have hN : 2 ^ L / (2 * 2 ^ s) = 2 ^ m := by
      rw [← Nat.pow_succ', Nat.pow_div (by omega) (by omega)]
      congr 1; omega
    have hw1 : zc P ((w : Int) ^ (2 ^ m * 2 ^ s)) (-1) := by
      have := hw (by omega)
      rw [← Nat.pow_add]
      have e : m + s = L - 1 := by omega
      rw [e]; exact this
    have hst : ∀ r : Nat, zc P (((w ^ 2 ^ m % P) ^ r % P : Nat) : Int) ((w : Int) ^ (2 ^ m * r)) := by
      intro r
      refine zc_tr (zc_mod P _) ?_
      rw [Int.natCast_pow, Int.pow_mul]
      refine zc_pow (zc_tr (zc_mod P _) ?_) r
      rw [Int.natCast_pow]; exact zc_rf _
    have ev : ∀ r, r < 2 ^ s → zc P ((zft P (2 ^ L) w G s (b * (2 * 2 ^ s) + r) : Nat) : Int) (zs (fun u => ((a (zr m b + 2 * u * 2 ^ m) : Nat) : Int) * (w : Int) ^ (2 ^ m * (2 * u * r))) (2 ^ s)) := by
      intro r hr
      have h1 := (ih (2 * b) r (by rw [Nat.pow_succ]; omega) hr).2
      have e1 : 2 * b * 2 ^ s = b * (2 * 2 ^ s) := by grind
      have e2 : zr (m + 1) (2 * b) = zr m b := by have := zr_low b 0 (by omega) m; simpa using this
      rw [e1, e2] at h1
      refine zc_tr h1 ?_
      refine zs_cg fun u _ => ?_
      have e3 : u * 2 ^ (m + 1) = 2 * u * 2 ^ m := by rw [Nat.pow_succ]; grind
      have e4 : 2 ^ (m + 1) * (u * r) = 2 ^ m * (2 * u * r) := by rw [Nat.pow_succ]; grind
      rw [e3, e4]; exact zc_rf _
    have od : ∀ r, r < 2 ^ s → zc P ((zft P (2 ^ L) w G s (b * (2 * 2 ^ s) + r + 2 ^ s) : Nat) : Int) (zs (fun u => ((a (zr m b + (2 * u + 1) * 2 ^ m) : Nat) : Int) * (w : Int) ^ (2 ^ m * (2 * u * r))) (2 ^ s)) := by
      intro r hr
      have h1 := (ih (2 * b + 1) r (by rw [Nat.pow_succ]; omega) hr).2
      have e1 : (2 * b + 1) * 2 ^ s + r = b * (2 * 2 ^ s) + r + 2 ^ s := by grind
      have e2 : zr (m + 1) (2 * b + 1) = 2 ^ m + zr m b := by have := zr_low b 1 (by omega) m; simpa using this
      rw [e1, e2] at h1
      refine zc_tr h1 ?_
      refine zs_cg fun u _ => ?_
      have e3 : 2 ^ m + zr m b + u * 2 ^ (m + 1) = zr m b + (2 * u + 1) * 2 ^ m := by rw [Nat.pow_succ]; grind
      have e4 : 2 ^ (m + 1) * (u * r) = 2 ^ m * (2 * u * r) := by rw [Nat.pow_succ]; grind
      rw [e3, e4]; exact zc_rf _
    have tgt : ∀ r, r < 2 ^ s → (zft P (2 ^ L) w G (s + 1) (b * (2 * 2 ^ s) + r) < P ∧ zc P ((zft P (2 ^ L) w G (s + 1) (b * (2 * 2 ^ s) + r) : Nat) : Int) (zs (fun t => ((a (zr m b + t * 2 ^ m) : Nat) : Int) * (w : Int) ^ (2 ^ m * (t * r))) (2 * 2 ^ s))) ∧
        (zft P (2 ^ L) w G (s + 1) (b * (2 * 2 ^ s) + r + 2 ^ s) < P ∧ zc P ((zft P (2 ^ L) w G (s + 1) (b * (2 * 2 ^ s) + r + 2 ^ s) : Nat) : Int) (zs (fun t => ((a (zr m b + t * 2 ^ m) : Nat) : Int) * (w : Int) ^ (2 ^ m * (t * (r + 2 ^ s)))) (2 * 2 ^ s))) := by
      intro r hr
      obtain ⟨v, -⟩ := zlv_at (P := P) (h := 2 ^ s) (st := w ^ 2 ^ m % P) (B := 2 ^ m) (G := zft P (2 ^ L) w G s) (2 ^ s) (Nat.le_refl _) b r hb hr
      obtain ⟨v1, v2⟩ := v hr
      have d : zft P (2 ^ L) w G (s + 1) = zlv P (2 ^ s) (w ^ 2 ^ m % P) (2 ^ m) (zft P (2 ^ L) w G s) (2 ^ s) := by
        show zlv P (2 ^ s) (w ^ (2 ^ L / (2 * 2 ^ s)) % P) (2 ^ L / (2 * 2 ^ s)) (zft P (2 ^ L) w G s) (2 ^ s) = _
        rw [hN]
      have hO : zc P (((zft P (2 ^ L) w G s (b * (2 * 2 ^ s) + r + 2 ^ s) : Nat) : Int) * (((w ^ 2 ^ m % P) ^ r % P : Nat) : Int)) (zs (fun u => ((a (zr m b + (2 * u + 1) * 2 ^ m) : Nat) : Int) * (w : Int) ^ (2 ^ m * ((2 * u + 1) * r))) (2 ^ s)) := by
        refine zc_tr (zc_mul (od r hr) (hst r)) ?_
        rw [Int.mul_comm, ← zs_mul]
        refine zs_cg fun u _ => ?_
        have e4 : 2 ^ m * ((2 * u + 1) * r) = 2 ^ m * r + 2 ^ m * (2 * u * r) := by grind
        rw [e4, Int.pow_add]
        exact ⟨0, by grind⟩
      rw [d]
      refine ⟨⟨?_, ?_⟩, ?_, ?_⟩
      · rw [v1]; exact Nat.mod_lt _ hP
      · rw [v1, zs_eo]
        exact z_n1 hP (ev r hr) hO
      · rw [v2]; exact Nat.mod_lt _ hP
      · rw [v2, zs_eo]
        refine zc_tr (z_n2 hP (ev r hr) hO) ?_
        have e5 : ∀ A B : Int, A - B = A + (-1) * B := by intro A B; omega
        rw [e5, ← zs_mul]
        refine zc_add (zs_cg fun u _ => ?_) (zs_cg fun u _ => ?_)
        · have e6 : 2 ^ m * (2 * u * (r + 2 ^ s)) = 2 ^ m * (2 * u * r) + 2 ^ m * 2 ^ s * 2 * u := by grind
          rw [e6, Int.pow_add, Int.pow_mul (n := 2 ^ m * 2 ^ s * 2), Int.pow_mul (n := 2 ^ m * 2 ^ s)]
          have h7 := zc_pow (zc_pow hw1 2) u
          rw [show ((-1 : Int) ^ 2) = 1 from rfl, Int.one_pow] at h7
          have h8 := zc_mul (zc_rf (P := P) (((a (zr m b + 2 * u * 2 ^ m) : Nat) : Int) * (w : Int) ^ (2 ^ m * (2 * u * r)))) (zc_sy h7)
          rw [Int.mul_one, Int.mul_assoc] at h8
          exact h8
        · have e6 : 2 ^ m * ((2 * u + 1) * (r + 2 ^ s)) = 2 ^ m * ((2 * u + 1) * r) + (2 ^ m * 2 ^ s * 2 * u + 2 ^ m * 2 ^ s) := by grind
          rw [e6, Int.pow_add, Int.pow_add, Int.pow_mul (n := 2 ^ m * 2 ^ s * 2), Int.pow_mul (n := 2 ^ m * 2 ^ s)]
          have h7 := zc_pow (zc_pow hw1 2) u
          rw [show ((-1 : Int) ^ 2) = 1 from rfl, Int.one_pow] at h7
          have h8 := zc_mul (zc_rf (P := P) (((a (zr m b + (2 * u + 1) * 2 ^ m) : Nat) : Int) * (w : Int) ^ (2 ^ m * ((2 * u + 1) * r)))) (zc_sy (zc_mul h7 hw1))
          refine zc_tr ?_ (zc_tr h8 ?_)
          · exact ⟨0, by grind⟩
          · exact ⟨0, by grind⟩
    have hh : b * 2 ^ (s + 1) = b * (2 * 2 ^ s) := by rw [Nat.pow_succ']
    rw [hh, Nat.pow_succ']
    rw [Nat.pow_succ'] at hj
    by_cases c : j < 2 ^ s
    · exact (tgt j c).1
    · obtain ⟨r, rfl⟩ : ∃ r, j = r + 2 ^ s := ⟨j - 2 ^ s, by omega⟩
      have := (tgt r (by omega)).2
      rw [Nat.add_assoc] at this
      exact this
/-- the transform by halves is the transform -/
theorem zft_end {P L w : Nat} {a : Nat → Nat} (hP : 0 < P) (hw : L ≠ 0 → zc P ((w : Int) ^ (2 ^ (L - 1))) (-1)) {G : Nat → Nat} (hG : ∀ j, j < 2 ^ L → G j = a (zr L j)) (ha : ∀ j, j < 2 ^ L → a j < P) {j : Nat} (hj : j < 2 ^ L) :
    zft P (2 ^ L) w G L j < P ∧ zc P ((zft P (2 ^ L) w G L j : Nat) : Int) (zs (fun t => ((a t : Nat) : Int) * (w : Int) ^ (t * j)) (2 ^ L)) := by
  have h := zft_at hP hw hG ha L 0 (by omega) 0 j (by simp) hj
  rw [Nat.zero_mul, Nat.zero_add] at h
  refine ⟨h.1, zc_tr h.2 ?_⟩
  refine zs_cg fun t _ => ?_
  have e : zr 0 0 + t * 2 ^ 0 = t := by show 0 + t * 1 = t; omega
  rw [e, Nat.pow_zero, Nat.one_mul]
  exact zc_rf _
