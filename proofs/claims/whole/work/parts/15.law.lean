/-! what the law needs of both answers, and the law's own rows -/
def zrel (g g' : Nat → Int64) (ks : Nat) : Prop := ∀ j, g j = if j < ks then g' j else lN 0
abbrev wX (x0 x1 x2 : Nat) (cA cB : ClassId) (m0 m1 m2 m3 : Nat) (cC cD cE : ClassId) (f g f' g' u : Nat → Int64) (k : Int32) : va_W := [(x0, .inr (0, [.ref x1, .ref x2])), (x1, .inl (cA, 1024, .inr (.inl f))), (x2, .inl (cB, 1024, .inr (.inl g))), (m0, .inr (1, [.ref m1, .ref m2, .ref m3, .int k])), (m1, .inl (cC, 1024, .inr (.inl f'))), (m2, .inl (cD, 1024, .inr (.inl g'))), (m3, .inl (cE, 1024, .inr (.inl u)))]
abbrev wM (x0 x1 x2 : Nat) (cA cB : ClassId) (m0 m1 m2 m3 : Nat) (cC cD cE : ClassId) (f g f' g' u : Nat → Int64) (k : Int32) : va_W := [(m0, .inr (1, [.ref m1, .ref m2, .ref m3, .int k])), (m1, .inl (cC, 1024, .inr (.inl f'))), (m2, .inl (cD, 1024, .inr (.inl g'))), (m3, .inl (cE, 1024, .inr (.inl u))), (x0, .inr (0, [.ref x1, .ref x2])), (x1, .inl (cA, 1024, .inr (.inl f))), (x2, .inl (cB, 1024, .inr (.inl g)))]
/-- put -/
def oP (f g : Nat → Int64) (q : Int32) (v : Int64) (r : Int32) (f2 g2 : Nat → Int64) : Prop := g2 = g ∧ ((r = 1 ∧ ∃ j, j < 1024 ∧ q = nI j ∧ f2 = vp_updL f j v) ∨ (r = 0 ∧ (¬ ∃ j, j < 1024 ∧ q = nI j) ∧ f2 = f))
theorem nI_inj {a b : Nat} (ha : a < 2 ^ 31) (hb : b < 2 ^ 31) {q : Int32} (h1 : q = nI a) (h2 : q = nI b) : a = b := (nI_eq ha hb).mp (h1.symm.trans h2)
theorem oP_un {f g g' : Nat → Int64} {q : Int32} {v : Int64} {r r' : Int32} {f2 g2 f3 g3 : Nat → Int64} (h : oP f g q v r f2 g2) (k : oP f g' q v r' f3 g3) : r = r' ∧ f2 = f3 := by
  obtain ⟨-, h⟩ := h
  obtain ⟨-, k⟩ := k
  rcases h with ⟨rfl, j, hj, e, rfl⟩ | ⟨rfl, hn, rfl⟩ <;> rcases k with ⟨rfl, j', hj', e', rfl⟩ | ⟨rfl, hn', rfl⟩
  · have := nI_inj (by omega) (by omega) e e'
    subst this
    exact ⟨rfl, rfl⟩
  · exact absurd ⟨j, hj, e⟩ hn'
  · exact absurd ⟨j', hj', e'⟩ hn
  · exact ⟨rfl, rfl⟩
/-- get -/
def oG (f : Nat → Int64) (q : Int32) (r : Int64) : Prop := (∃ j, j < 1024 ∧ q = nI j ∧ r = f j) ∨ ((¬ ∃ j, j < 1024 ∧ q = nI j) ∧ r = lN 0)
theorem oG_un {f : Nat → Int64} {q : Int32} {r r' : Int64} (h : oG f q r) (k : oG f q r') : r = r' := by
  rcases h with ⟨j, hj, e, rfl⟩ | ⟨hn, rfl⟩ <;> rcases k with ⟨j', hj', e', rfl⟩ | ⟨hn', rfl⟩
  · have := nI_inj (by omega) (by omega) e e'
    subst this
    rfl
  · exact absurd ⟨j, hj, e⟩ hn'
  · exact absurd ⟨j', hj', e'⟩ hn
  · rfl
/-- root -/
def oR (q1 q2 : Int32) (r : Int64) : Prop := (∃ z, zrf q1 q2 z ∧ ¬ z = 0 ∧ r = lN 0) ∨ (∃ L P w0, zgo q1 q2 L P ∧ 2 ^ L ∣ P - 1 ∧ zW (2 ^ L) P w0 ∧ r = lN w0)
theorem zgo_un {q1 q2 : Int32} {L P L' P' : Nat} (h : zgo q1 q2 L P) (k : zgo q1 q2 L' P') : L = L' ∧ P = P' := by
  obtain ⟨a1, a2, a3, a4, a5, a6⟩ := h
  obtain ⟨b1, b2, b3, b4, b5, b6⟩ := k
  have x1 := z_2pow a1
  have x2 := z_2pow b1
  refine ⟨?_, nI_inj (by omega) (by omega) a3 b3⟩
  have e := nI_inj (by omega) (by omega) a2 b2
  rcases Nat.lt_trichotomy L L' with c | c | c
  · have := Nat.pow_lt_pow_right (a := 2) (by omega) c; omega
  · exact c
  · have := Nat.pow_lt_pow_right (a := 2) (by omega) c; omega
theorem zgo_0 {q1 q2 : Int32} {L P : Nat} (h : zgo q1 q2 L P) (hd : 2 ^ L ∣ P - 1) : zrf q1 q2 0 := Or.inr (Or.inr (Or.inr ⟨rfl, L, P, h, hd⟩))
theorem oR_un {q1 q2 : Int32} {r r' : Int64} (h : oR q1 q2 r) (k : oR q1 q2 r') : r = r' := by
  rcases h with ⟨z, h1, h2, rfl⟩ | ⟨L, P, w0, h1, h2, h3, rfl⟩ <;> rcases k with ⟨z', k1, k2, rfl⟩ | ⟨L', P', w0', k1, k2, k3, rfl⟩
  · rfl
  · exact absurd (zrf_un h1 (zgo_0 k1 k2)) h2
  · exact absurd (zrf_un k1 (zgo_0 h1 h2)) k2
  · obtain ⟨rfl, rfl⟩ := zgo_un h1 k1
    rw [zW_un h3 k3]
/-- transform -/
def oT (f : Nat → Int64) (q1 q2 q3 r : Int32) (f2 : Nat → Int64) : Prop := (zrf q1 q2 r ∧ ¬ r = 0 ∧ f2 = f) ∨ (r = 0 ∧ ∃ L P w0, zgo q1 q2 L P ∧ 2 ^ L ∣ P - 1 ∧ zW (2 ^ L) P w0 ∧ f2 = zT L P w0 q3 f)
theorem oT_un {f : Nat → Int64} {q1 q2 q3 r r' : Int32} {f2 f3 : Nat → Int64} (h : oT f q1 q2 q3 r f2) (k : oT f q1 q2 q3 r' f3) : r = r' ∧ f2 = f3 := by
  rcases h with ⟨h1, h2, rfl⟩ | ⟨rfl, L, P, w0, h1, h2, h3, rfl⟩ <;> rcases k with ⟨k1, k2, rfl⟩ | ⟨rfl, L', P', w0', k1, k2, k3, rfl⟩
  · exact ⟨zrf_un h1 k1, rfl⟩
  · exact absurd (zrf_un h1 (zgo_0 k1 k2)) h2
  · exact absurd (zrf_un k1 (zgo_0 h1 h2)) k2
  · obtain ⟨rfl, rfl⟩ := zgo_un h1 k1
    rw [zW_un h3 k3]
    exact ⟨rfl, rfl⟩
/-- keep -/
theorem zrel_keep {f g g' : Nat → Int64} {ks j : Nat} (hks : ks ≤ 1024) (hj : j ≤ 1024) (h : zrel g g' ks) : zrel (zpt 1024 (fun t => if t < j then f t else lN 0) g) (zpt j f g') j := by
  intro t
  unfold zpt
  by_cases c : t < 1024
  · by_cases d : t < j
    · simp [c, d]
    · simp [c, d]
  · have d : ¬ t < j := by omega
    have d2 : ¬ t < ks := by omega
    rw [if_neg c, if_neg d, h t, if_neg d2]
/-- times -/
theorem zrs_0 {P : Nat} (h : 0 < P) : zrs P (lN 0) = 0 := by
  unfold zrs
  have : (lN 0).toInt = 0 := by decide
  rw [this]; simp
theorem zrel_times {f g g' : Nat → Int64} {ks P : Nat} (hP : 0 < P) (h : zrel g g' ks) : (fun t => lN (zrs P (f t) * zrs P (g t) % P)) = (fun t => if t < ks then lN (zrs P (f t) * zrs P (g' t) % P) else lN 0) := by
  funext t
  rw [h t]
  by_cases c : t < ks
  · rw [if_pos c, if_pos c]
  · rw [if_neg c, if_neg c, zrs_0 hP, Nat.mul_zero, Nat.zero_mod]
section LW
variable {p : Program} {l : Launch} {e : Env} {R : Room} {s : State} {m : MethodId} {args : Array Value} {below : List Frame} {meth : Method} {c : Code} {H : Heap} {locs : List Loc} {cells slots : Nat} {Q : State → Prop}
variable {cc : ByteArray} {pc : Nat} {ls : Array Slot} {rest : List Value} {A : Nat → Prop} {H0 : Heap}
theorem ks_ld (hx : p.tables.exec = Jvm.exec) (hb : c.code = cc) {b L : Nat} {xs : Nat → Int32} (hX : va_X b L xs s H0) (hbl : b < H0.size) (hbA : ¬ A b) (hS : va_S A H0 H locs) {i : Nat} (hi : i < L) (hL : L < 2 ^ 31) (hdg : decode cc pc = .ok (.iaload, 1))
    (kk : W p l e R s m args below meth c H locs cells slots Q (F0 m (pc + 1) ls (.int (xs i) :: rest))) : W p l e R s m args below meth c H locs cells slots Q (F0 m pc ls (.int (nI i) :: .ref b :: rest)) :=
  va_sld hx hb hX hbl hbA hS (vp_in_nI hi hL) hdg (by rw [nI_clamp (by omega)]; exact kk)
end LW
/-! THE CLAIM OUT OF ONE WALK OF THE LAW'S BODY. Your part is whole_start (and what it stands on); all else here is the same for every law, but numbers. -/
def R_law : String := "ResidueTransformsLaw"
def lw_P (b : Addr) (xs : List Int32) (args : Array Value) (s : State) : Prop := args = #[.ref b] ∧ s.IntsAt b xs ∧ xs.length ≤ 2048 ∧ (Jvm.Cond.and given_1 narrow_1).before args s = true
def lw_Q (_ : Array Value) (s : State) (o : Outcome) (t : State) : Prop := o = .returned (some (.int 1)) ∧ Framed s o t [] 7 5126
def lw_Z (below : List Frame) (a : Array Value) (s : State) : State → Prop := fun t => ∃ o, t.status = .running ∧ Ended t below o ∧ lw_Q a s o t
/-- the law's own end, with 1 on the stack, nothing written that was there before, its room as the claim has it -/
theorem lw_ret {p : Program} {l : Launch} {e : Env} {s : State} {m : MethodId} {below : List Frame} {meth : Method} {c : Code} {b : Nat} (hx : p.tables.exec = Jvm.exec) (hb : c.code = code) (hr : meth.sig.returnType = ret) (hlocks : meth.locks = false) {pc : Nat} {H : Heap} {ls : Array Slot} (hdg : decode code pc = .ok (.ireturn, 1)) : W p l e room_1 s m #[Value.ref b] below meth c H [] 7 5126 (lw_Z below #[Value.ref b] s) (F0 m pc ls [.int 1]) := by
  intro T hT X
  obtain ⟨fs, hret, hrun, hended, hW, hframe⟩ := X.leave (v := some (.int 1)) (hlocks := hlocks) (fun h => by rw [hr] at h; cases h)
  have hmeth' : T.vm.method? m = some meth := X.method'
  refine ⟨T.setFrames fs, ?_, .returned (some (.int 1)), hrun, hended, rfl, ⟨_, rfl⟩, hW, hframe⟩
  jvm_step X.here [X.here.top, hx, hb, hdg, hmeth', hr, ret, narrow_b1]
  (try refine ⟨rfl, ?_⟩); (try refine ⟨rfl, ?_⟩)
  first | (intro acts; rw [hret _ acts rfl rfl rfl]) | rw [hret _ _ rfl rfl rfl]
  exact Steps.refl _
/-- what holds at the law's entry: the machine, the code, the tables' words (any of lw_tbl by 'hts w (by decide +kernel)'), the script of L ints xs at the cell b, what the Statement gives of the start (any of its parts by flat_of_before) -/
def lw_At (p : Program) (s : State) (m : MethodId) (meth : Method) (c : Code) (b L : Nat) (xs : Nat → Int32) : Prop :=
  p.tables.exec = Jvm.exec ∧ c.code = code ∧ meth.sig.returnType = ret ∧ c.maxLocals = 4 ∧ s.vm.findClass R_law = some m.cls ∧ (∀ w ∈ lw_tbl, w.before #[Value.ref b] s = true) ∧ va_X b L xs s s.heap ∧ b < s.heap.size ∧ meth.locks = false ∧ (Jvm.Cond.and given_1 narrow_1).before #[Value.ref b] s = true
set_option maxHeartbeats 4000000 in
set_option maxRecDepth 100000 in
theorem law_put {p : Program} {l : Launch} {e : Env} {s : State} {m : MethodId} {below : List Frame} {meth : Method} {c : Code} {dC : Nat → ClassId} {dI : Nat → Nat → Nat} {b L : Nat} {xs : Nat → Int32} {x0 x1 x2 m0 m1 m2 m3 : Nat} {cA cB cC cD cE : ClassId} (hL : L ≤ 2048) (C0 : lw_At p s m meth c b L xs) (hK : va_K (dC, dI) vwCl [(cA, .long), (cB, .long), (cC, .long), (cD, .long), (cE, .long)] s) {i : Nat} (hi : i + 4 ≤ L) (tail : ∀ (f g g' u : Nat → Int64) (ks : Nat), ks ≤ 1024 → zrel g g' ks → ∀ (H : Heap) (locs : List Loc), va_P (dC, dI) vwCl (wX x0 x1 x2 cA cB m0 m1 m2 m3 cC cD cE f g f g' u (nI ks)) H → va_D (fun q : Nat => s.heap.size ≤ q) (wX x0 x1 x2 cA cB m0 m1 m2 m3 cC cD cE f g f g' u (nI ks)) → va_S (fun q : Nat => s.heap.size ≤ q) s.heap H locs → ∀ (ls : Array Slot), lv_has ls 4 [(0, .ref b), (1, .ref x0), (2, .ref m0), (3, .int (nI i))] → W p l e room_1 s m #[Value.ref b] below meth c H locs 7 5126 (lw_Z below #[Value.ref b] s) (F0 m 308 ls [])) (f g g' u : Nat → Int64) (ks : Nat) (hks : ks ≤ 1024) (hrel : zrel g g' ks) (H : Heap) (locs : List Loc) (hP : va_P (dC, dI) vwCl (wX x0 x1 x2 cA cB m0 m1 m2 m3 cC cD cE f g f g' u (nI ks)) H) (hD : va_D (fun q : Nat => s.heap.size ≤ q) (wX x0 x1 x2 cA cB m0 m1 m2 m3 cC cD cE f g f g' u (nI ks))) (hS : va_S (fun q : Nat => s.heap.size ≤ q) s.heap H locs) (ls : Array Slot) (hl : lv_has ls 4 [(0, .ref b), (1, .ref x0), (2, .ref m0), (3, .int (nI i))]) : W p l e room_1 s m #[Value.ref b] below meth c H locs 7 5126 (lw_Z below #[Value.ref b] s) (F0 m 72 ls []) := by
  obtain ⟨hx, hb, hr, hml, hown, hts, hX, hbl, hlocks, hgv⟩ := C0
  have hown : s.vm.findClass RL = some m.cls := hown
  have hts : ∀ w ∈ wsL_law, w.before #[Value.ref b] s = true := fun w h => hts w (wsL_law_in w h)
  have hA : ∀ q : Nat, s.heap.size ≤ q → (fun q : Nat => s.heap.size ≤ q) q := fun _ h => h
  have hbA : ¬ (fun q : Nat => s.heap.size ≤ q) b := Nat.not_le.mpr hbl
  have hKx : va_K (dC, dI) vwCl [(cA, .long), (cB, .long)] s := hK.sub (tys' := [(cA, .long), (cB, .long)]) [0, 1] rfl
  have hKm : va_K (dC, dI) vwCl [(cC, .long), (cD, .long), (cE, .long)] s := hK.sub (tys' := [(cC, .long), (cD, .long), (cE, .long)]) [2, 3, 4] rfl
  refine lv_aload_n hx hb dL_law_72 rfl (lv_at hl 1 rfl) ?_
  refine lv_aload_n hx hb dL_law_73 rfl (lv_at hl 0 rfl) ?_
  refine lv_iload_n hx hb dL_law_74 rfl (lv_at hl 3 rfl) ?_
  refine lv_iconst (v := (1 : Int32)) hx hb dL_law_75 (by decide) ?_
  refine lv_iadd hx hb dL_law_76 ?_
  refine kt_i (v := nI (i + 1)) (nI_add i 1) ?_
  refine ks_ld hx hb hX hbl hbA hS (i := i + 1) (by omega) (by omega) dL_law_77 ?_
  refine lv_aload_n hx hb dL_law_78 rfl (lv_at hl 0 rfl) ?_
  refine lv_iload_n hx hb dL_law_79 rfl (lv_at hl 3 rfl) ?_
  refine lv_iconst (v := (2 : Int32)) hx hb dL_law_80 (by decide) ?_
  refine lv_iadd hx hb dL_law_81 ?_
  refine kt_i (v := nI (i + 2)) (nI_add i 2) ?_
  refine ks_ld hx hb hX hbl hbA hS (i := i + 2) (by omega) (by omega) dL_law_82 ?_
  refine lv_i2l (v := ((xs (i + 2))).toInt64) hx hb dL_law_83 (rfl) ?_
  refine lv_bipush (v := (32 : Int32)) hx hb dL_law_84 (by decide) ?_
  refine lv_lshl (v := ((((xs (i + 2))).toInt64)) <<< (((32 : Int32)).toInt64 &&& 63)) hx hb dL_law_86 rfl ?_
  refine lv_aload_n hx hb dL_law_87 rfl (lv_at hl 0 rfl) ?_
  refine lv_iload_n hx hb dL_law_88 rfl (lv_at hl 3 rfl) ?_
  refine lv_iconst (v := (3 : Int32)) hx hb dL_law_89 (by decide) ?_
  refine lv_iadd hx hb dL_law_90 ?_
  refine kt_i (v := nI (i + 3)) (nI_add i 3) ?_
  refine ks_ld hx hb hX hbl hbA hS (i := i + 3) (by omega) (by omega) dL_law_91 ?_
  refine lv_i2l (v := ((xs (i + 3))).toInt64) hx hb dL_law_92 (rfl) ?_
  refine lv_ldc2 hx hb hown (hts (.constantLong RL 13 (4294967295)) (by decide +kernel)) dL_law_93 ?_
  refine lv_land hx hb dL_law_96 ?_
  refine lv_lor hx hb dL_law_97 ?_
  have hPc := hP.sub (ws' := w3 x0 x1 x2 cA cB f g) [0, 1, 2] rfl
  have hDc := hD.sub (ws' := w3 x0 x1 x2 cA cB f g) [0, 1, 2] (by decide) rfl
  refine kv_i (As := [.int (xs (i + 1)), .long (((((((xs (i + 2))).toInt64)) <<< (((32 : Int32)).toInt64 &&& 63))) ||| ((((((xs (i + 3))).toInt64)) &&& ((4294967295)))))]) (rest := []) (ci := 0) (q := (RX0, TX0, 2)) (wc := w3 x0 x1 x2 cA cB f g) (wr := w4 m0 m1 m2 m3 cC cD cE f g' u (nI ks)) ⟨hx, hb, hml, hown, hts⟩ (m_put l dC dI x0 x1 x2 _ cA cB f g (xs (i + 1)) (((((((xs (i + 2))).toInt64)) <<< (((32 : Int32)).toInt64 &&& 63))) ||| ((((((xs (i + 3))).toInt64)) &&& ((4294967295)))))) (cwV 2 hts gL_law_X0_put rfl rfl rfl (by decide +kernel) ⟨Nat.le_of_ble_eq_true rfl, Nat.le_of_ble_eq_true rfl⟩) hK hKx hP hD hS hA [0, 1, 2] [3, 4, 5, 6] rfl rfl rfl (by decide) hPc hDc rfl rfl rfl hl.1 rfl (Nat.le_of_ble_eq_true rfl) dL_law_98 ⟨Nat.le_of_ble_eq_true rfl, Nat.le_of_ble_eq_true rfl⟩ (fun r1 w1 H locs hr1 hP hD hS => ?_)
  obtain ⟨f2, e1, o1⟩ : ∃ f2, w1 = w3 x0 x1 x2 cA cB f2 g ∧ oP f g (xs (i + 1)) (((((((xs (i + 2))).toInt64)) <<< (((32 : Int32)).toInt64 &&& 63))) ||| ((((((xs (i + 3))).toInt64)) &&& ((4294967295))))) r1 f2 g := by
    rcases hr1 with ⟨a1, j, a2, a3, a4⟩ | ⟨a1, a2, a3⟩
    · exact ⟨_, a4, rfl, Or.inl ⟨a1, j, a2, a3, rfl⟩⟩
    · exact ⟨_, a3, rfl, Or.inr ⟨a1, a2, rfl⟩⟩
  subst e1
  have hP : va_P (dC, dI) vwCl (wM x0 x1 x2 cA cB m0 m1 m2 m3 cC cD cE f2 g f g' u (nI ks)) H := hP
  have hD : va_D (fun q : Nat => s.heap.size ≤ q) (wM x0 x1 x2 cA cB m0 m1 m2 m3 cC cD cE f2 g f g' u (nI ks)) := hD
  refine lv_aload_n hx hb dL_law_101 rfl (lv_at hl 2 rfl) ?_
  refine lv_aload_n hx hb dL_law_102 rfl (lv_at hl 0 rfl) ?_
  refine lv_iload_n hx hb dL_law_103 rfl (lv_at hl 3 rfl) ?_
  refine lv_iconst (v := (1 : Int32)) hx hb dL_law_104 (by decide) ?_
  refine lv_iadd hx hb dL_law_105 ?_
  refine kt_i (v := nI (i + 1)) (nI_add i 1) ?_
  refine ks_ld hx hb hX hbl hbA hS (i := i + 1) (by omega) (by omega) dL_law_106 ?_
  refine lv_aload_n hx hb dL_law_107 rfl (lv_at hl 0 rfl) ?_
  refine lv_iload_n hx hb dL_law_108 rfl (lv_at hl 3 rfl) ?_
  refine lv_iconst (v := (2 : Int32)) hx hb dL_law_109 (by decide) ?_
  refine lv_iadd hx hb dL_law_110 ?_
  refine kt_i (v := nI (i + 2)) (nI_add i 2) ?_
  refine ks_ld hx hb hX hbl hbA hS (i := i + 2) (by omega) (by omega) dL_law_111 ?_
  refine lv_i2l (v := ((xs (i + 2))).toInt64) hx hb dL_law_112 (rfl) ?_
  refine lv_bipush (v := (32 : Int32)) hx hb dL_law_113 (by decide) ?_
  refine lv_lshl (v := ((((xs (i + 2))).toInt64)) <<< (((32 : Int32)).toInt64 &&& 63)) hx hb dL_law_115 rfl ?_
  refine lv_aload_n hx hb dL_law_116 rfl (lv_at hl 0 rfl) ?_
  refine lv_iload_n hx hb dL_law_117 rfl (lv_at hl 3 rfl) ?_
  refine lv_iconst (v := (3 : Int32)) hx hb dL_law_118 (by decide) ?_
  refine lv_iadd hx hb dL_law_119 ?_
  refine kt_i (v := nI (i + 3)) (nI_add i 3) ?_
  refine ks_ld hx hb hX hbl hbA hS (i := i + 3) (by omega) (by omega) dL_law_120 ?_
  refine lv_i2l (v := ((xs (i + 3))).toInt64) hx hb dL_law_121 (rfl) ?_
  refine lv_ldc2 hx hb hown (hts (.constantLong RL 13 (4294967295)) (by decide +kernel)) dL_law_122 ?_
  refine lv_land hx hb dL_law_125 ?_
  refine lv_lor hx hb dL_law_126 ?_
  have hPc := hP.sub (ws' := w4 m0 m1 m2 m3 cC cD cE f g' u (nI ks)) [0, 1, 2, 3] rfl
  have hDc := hD.sub (ws' := w4 m0 m1 m2 m3 cC cD cE f g' u (nI ks)) [0, 1, 2, 3] (by decide) rfl
  refine kv_i (As := [.int (xs (i + 1)), .long (((((((xs (i + 2))).toInt64)) <<< (((32 : Int32)).toInt64 &&& 63))) ||| ((((((xs (i + 3))).toInt64)) &&& ((4294967295)))))]) (rest := [.int r1]) (ci := 1) (q := (RX1, TX1, 4)) (wc := w4 m0 m1 m2 m3 cC cD cE f g' u (nI ks)) (wr := w3 x0 x1 x2 cA cB f2 g) ⟨hx, hb, hml, hown, hts⟩ (k_put l dC dI m0 m1 m2 m3 _ cC cD cE f g' u (nI ks) (xs (i + 1)) (((((((xs (i + 2))).toInt64)) <<< (((32 : Int32)).toInt64 &&& 63))) ||| ((((((xs (i + 3))).toInt64)) &&& ((4294967295)))))) (cwV 2 hts gL_law_X1_put rfl rfl rfl (by decide +kernel) ⟨Nat.le_of_ble_eq_true rfl, Nat.le_of_ble_eq_true rfl⟩) hK hKm hP hD hS hA [0, 1, 2, 3] [4, 5, 6] rfl rfl rfl (by decide) hPc hDc rfl rfl rfl hl.1 rfl (Nat.le_of_ble_eq_true rfl) dL_law_127 ⟨Nat.le_of_ble_eq_true rfl, Nat.le_of_ble_eq_true rfl⟩ (fun r2 w2 H locs hr2 hP hD hS => ?_)
  obtain ⟨f3, e2, o2⟩ : ∃ f3, w2 = w4 m0 m1 m2 m3 cC cD cE f3 g' u (nI ks) ∧ oP f g' (xs (i + 1)) (((((((xs (i + 2))).toInt64)) <<< (((32 : Int32)).toInt64 &&& 63))) ||| ((((((xs (i + 3))).toInt64)) &&& ((4294967295))))) r2 f3 g' := by
    rcases hr2 with ⟨a1, j, a2, a3, a4⟩ | ⟨a1, a2, a3⟩
    · exact ⟨_, a4, rfl, Or.inl ⟨a1, j, a2, a3, rfl⟩⟩
    · exact ⟨_, a3, rfl, Or.inr ⟨a1, a2, rfl⟩⟩
  subst e2
  obtain ⟨e3, e4⟩ := oP_un o1 o2
  subst e4
  have hP : va_P (dC, dI) vwCl (wX x0 x1 x2 cA cB m0 m1 m2 m3 cC cD cE f2 g f2 g' u (nI ks)) H := hP
  have hD : va_D (fun q : Nat => s.heap.size ≤ q) (wX x0 x1 x2 cA cB m0 m1 m2 m3 cC cD cE f2 g f2 g' u (nI ks)) := hD
  refine lv_icmp_eq (tgt := 308) hx hb dL_law_130 (by decide) (fun _ => ?_) (fun hc => absurd (e3) hc)
  exact tail f2 g g' u ks hks hrel H locs hP hD hS ls hl
set_option maxHeartbeats 4000000 in
set_option maxRecDepth 100000 in
theorem law_get {p : Program} {l : Launch} {e : Env} {s : State} {m : MethodId} {below : List Frame} {meth : Method} {c : Code} {dC : Nat → ClassId} {dI : Nat → Nat → Nat} {b L : Nat} {xs : Nat → Int32} {x0 x1 x2 m0 m1 m2 m3 : Nat} {cA cB cC cD cE : ClassId} (hL : L ≤ 2048) (C0 : lw_At p s m meth c b L xs) (hK : va_K (dC, dI) vwCl [(cA, .long), (cB, .long), (cC, .long), (cD, .long), (cE, .long)] s) {i : Nat} (hi : i + 4 ≤ L) (tail : ∀ (f g g' u : Nat → Int64) (ks : Nat), ks ≤ 1024 → zrel g g' ks → ∀ (H : Heap) (locs : List Loc), va_P (dC, dI) vwCl (wX x0 x1 x2 cA cB m0 m1 m2 m3 cC cD cE f g f g' u (nI ks)) H → va_D (fun q : Nat => s.heap.size ≤ q) (wX x0 x1 x2 cA cB m0 m1 m2 m3 cC cD cE f g f g' u (nI ks)) → va_S (fun q : Nat => s.heap.size ≤ q) s.heap H locs → ∀ (ls : Array Slot), lv_has ls 4 [(0, .ref b), (1, .ref x0), (2, .ref m0), (3, .int (nI i))] → W p l e room_1 s m #[Value.ref b] below meth c H locs 7 5126 (lw_Z below #[Value.ref b] s) (F0 m 308 ls [])) (f g g' u : Nat → Int64) (ks : Nat) (hks : ks ≤ 1024) (hrel : zrel g g' ks) (H : Heap) (locs : List Loc) (hP : va_P (dC, dI) vwCl (wX x0 x1 x2 cA cB m0 m1 m2 m3 cC cD cE f g f g' u (nI ks)) H) (hD : va_D (fun q : Nat => s.heap.size ≤ q) (wX x0 x1 x2 cA cB m0 m1 m2 m3 cC cD cE f g f g' u (nI ks))) (hS : va_S (fun q : Nat => s.heap.size ≤ q) s.heap H locs) (ls : Array Slot) (hl : lv_has ls 4 [(0, .ref b), (1, .ref x0), (2, .ref m0), (3, .int (nI i))]) : W p l e room_1 s m #[Value.ref b] below meth c H locs 7 5126 (lw_Z below #[Value.ref b] s) (F0 m 135 ls []) := by
  obtain ⟨hx, hb, hr, hml, hown, hts, hX, hbl, hlocks, hgv⟩ := C0
  have hown : s.vm.findClass RL = some m.cls := hown
  have hts : ∀ w ∈ wsL_law, w.before #[Value.ref b] s = true := fun w h => hts w (wsL_law_in w h)
  have hA : ∀ q : Nat, s.heap.size ≤ q → (fun q : Nat => s.heap.size ≤ q) q := fun _ h => h
  have hbA : ¬ (fun q : Nat => s.heap.size ≤ q) b := Nat.not_le.mpr hbl
  have hKx : va_K (dC, dI) vwCl [(cA, .long), (cB, .long)] s := hK.sub (tys' := [(cA, .long), (cB, .long)]) [0, 1] rfl
  have hKm : va_K (dC, dI) vwCl [(cC, .long), (cD, .long), (cE, .long)] s := hK.sub (tys' := [(cC, .long), (cD, .long), (cE, .long)]) [2, 3, 4] rfl
  refine lv_aload_n hx hb dL_law_135 rfl (lv_at hl 1 rfl) ?_
  refine lv_aload_n hx hb dL_law_136 rfl (lv_at hl 0 rfl) ?_
  refine lv_iload_n hx hb dL_law_137 rfl (lv_at hl 3 rfl) ?_
  refine lv_iconst (v := (1 : Int32)) hx hb dL_law_138 (by decide) ?_
  refine lv_iadd hx hb dL_law_139 ?_
  refine kt_i (v := nI (i + 1)) (nI_add i 1) ?_
  refine ks_ld hx hb hX hbl hbA hS (i := i + 1) (by omega) (by omega) dL_law_140 ?_
  have hPc := hP.sub (ws' := w3 x0 x1 x2 cA cB f g) [0, 1, 2] rfl
  have hDc := hD.sub (ws' := w3 x0 x1 x2 cA cB f g) [0, 1, 2] (by decide) rfl
  refine kv_l (As := [.int (xs (i + 1))]) (rest := []) (ci := 0) (q := (RX0, TX0, 2)) (wc := w3 x0 x1 x2 cA cB f g) (wr := w4 m0 m1 m2 m3 cC cD cE f g' u (nI ks)) ⟨hx, hb, hml, hown, hts⟩ (m_get l dC dI x0 x1 x2 _ cA cB f g (xs (i + 1))) (cwV 1 hts gL_law_X0_get rfl rfl rfl (by decide +kernel) ⟨Nat.le_of_ble_eq_true rfl, Nat.le_of_ble_eq_true rfl⟩) hK hKx hP hD hS hA [0, 1, 2] [3, 4, 5, 6] rfl rfl rfl (by decide) hPc hDc rfl rfl rfl hl.1 rfl (Nat.le_of_ble_eq_true rfl) dL_law_141 ⟨Nat.le_of_ble_eq_true rfl, Nat.le_of_ble_eq_true rfl⟩ (fun r1 w1 H locs hr1 hP hD hS => ?_)
  obtain ⟨e1, o1⟩ := hr1
  subst e1
  have hP : va_P (dC, dI) vwCl (wM x0 x1 x2 cA cB m0 m1 m2 m3 cC cD cE f g f g' u (nI ks)) H := hP
  have hD : va_D (fun q : Nat => s.heap.size ≤ q) (wM x0 x1 x2 cA cB m0 m1 m2 m3 cC cD cE f g f g' u (nI ks)) := hD
  refine lv_aload_n hx hb dL_law_144 rfl (lv_at hl 2 rfl) ?_
  refine lv_aload_n hx hb dL_law_145 rfl (lv_at hl 0 rfl) ?_
  refine lv_iload_n hx hb dL_law_146 rfl (lv_at hl 3 rfl) ?_
  refine lv_iconst (v := (1 : Int32)) hx hb dL_law_147 (by decide) ?_
  refine lv_iadd hx hb dL_law_148 ?_
  refine kt_i (v := nI (i + 1)) (nI_add i 1) ?_
  refine ks_ld hx hb hX hbl hbA hS (i := i + 1) (by omega) (by omega) dL_law_149 ?_
  have hPc := hP.sub (ws' := w4 m0 m1 m2 m3 cC cD cE f g' u (nI ks)) [0, 1, 2, 3] rfl
  have hDc := hD.sub (ws' := w4 m0 m1 m2 m3 cC cD cE f g' u (nI ks)) [0, 1, 2, 3] (by decide) rfl
  refine kv_l (As := [.int (xs (i + 1))]) (rest := [.long r1]) (ci := 1) (q := (RX1, TX1, 4)) (wc := w4 m0 m1 m2 m3 cC cD cE f g' u (nI ks)) (wr := w3 x0 x1 x2 cA cB f g) ⟨hx, hb, hml, hown, hts⟩ (k_get l dC dI m0 m1 m2 m3 _ cC cD cE f g' u (nI ks) (xs (i + 1))) (cwV 1 hts gL_law_X1_get rfl rfl rfl (by decide +kernel) ⟨Nat.le_of_ble_eq_true rfl, Nat.le_of_ble_eq_true rfl⟩) hK hKm hP hD hS hA [0, 1, 2, 3] [4, 5, 6] rfl rfl rfl (by decide) hPc hDc rfl rfl rfl hl.1 rfl (Nat.le_of_ble_eq_true rfl) dL_law_150 ⟨Nat.le_of_ble_eq_true rfl, Nat.le_of_ble_eq_true rfl⟩ (fun r2 w2 H locs hr2 hP hD hS => ?_)
  obtain ⟨e2, o2⟩ := hr2
  subst e2
  have hP : va_P (dC, dI) vwCl (wX x0 x1 x2 cA cB m0 m1 m2 m3 cC cD cE f g f g' u (nI ks)) H := hP
  have hD : va_D (fun q : Nat => s.heap.size ≤ q) (wX x0 x1 x2 cA cB m0 m1 m2 m3 cC cD cE f g f g' u (nI ks)) := hD
  refine W.lcmp hx hb dL_law_153 ?_
  refine lv_if_eq (tgt := 308) hx hb dL_law_154 (by decide) (fun _ => ?_) (fun hc => absurd ((lg_cmp_eq _ _).mpr (oG_un o1 o2)) hc)
  exact tail f g g' u ks hks hrel H locs hP hD hS ls hl
set_option maxHeartbeats 4000000 in
set_option maxRecDepth 100000 in
theorem law_transform {p : Program} {l : Launch} {e : Env} {s : State} {m : MethodId} {below : List Frame} {meth : Method} {c : Code} {dC : Nat → ClassId} {dI : Nat → Nat → Nat} {b L : Nat} {xs : Nat → Int32} {x0 x1 x2 m0 m1 m2 m3 : Nat} {cA cB cC cD cE : ClassId} (hL : L ≤ 2048) (C0 : lw_At p s m meth c b L xs) (hK : va_K (dC, dI) vwCl [(cA, .long), (cB, .long), (cC, .long), (cD, .long), (cE, .long)] s) {i : Nat} (hi : i + 4 ≤ L) (tail : ∀ (f g g' u : Nat → Int64) (ks : Nat), ks ≤ 1024 → zrel g g' ks → ∀ (H : Heap) (locs : List Loc), va_P (dC, dI) vwCl (wX x0 x1 x2 cA cB m0 m1 m2 m3 cC cD cE f g f g' u (nI ks)) H → va_D (fun q : Nat => s.heap.size ≤ q) (wX x0 x1 x2 cA cB m0 m1 m2 m3 cC cD cE f g f g' u (nI ks)) → va_S (fun q : Nat => s.heap.size ≤ q) s.heap H locs → ∀ (ls : Array Slot), lv_has ls 4 [(0, .ref b), (1, .ref x0), (2, .ref m0), (3, .int (nI i))] → W p l e room_1 s m #[Value.ref b] below meth c H locs 7 5126 (lw_Z below #[Value.ref b] s) (F0 m 308 ls [])) (f g g' u : Nat → Int64) (ks : Nat) (hks : ks ≤ 1024) (hrel : zrel g g' ks) (H : Heap) (locs : List Loc) (hP : va_P (dC, dI) vwCl (wX x0 x1 x2 cA cB m0 m1 m2 m3 cC cD cE f g f g' u (nI ks)) H) (hD : va_D (fun q : Nat => s.heap.size ≤ q) (wX x0 x1 x2 cA cB m0 m1 m2 m3 cC cD cE f g f g' u (nI ks))) (hS : va_S (fun q : Nat => s.heap.size ≤ q) s.heap H locs) (ls : Array Slot) (hl : lv_has ls 4 [(0, .ref b), (1, .ref x0), (2, .ref m0), (3, .int (nI i))]) : W p l e room_1 s m #[Value.ref b] below meth c H locs 7 5126 (lw_Z below #[Value.ref b] s) (F0 m 159 ls []) := by
  obtain ⟨hx, hb, hr, hml, hown, hts, hX, hbl, hlocks, hgv⟩ := C0
  have hown : s.vm.findClass RL = some m.cls := hown
  have hts : ∀ w ∈ wsL_law, w.before #[Value.ref b] s = true := fun w h => hts w (wsL_law_in w h)
  have hA : ∀ q : Nat, s.heap.size ≤ q → (fun q : Nat => s.heap.size ≤ q) q := fun _ h => h
  have hbA : ¬ (fun q : Nat => s.heap.size ≤ q) b := Nat.not_le.mpr hbl
  have hKx : va_K (dC, dI) vwCl [(cA, .long), (cB, .long)] s := hK.sub (tys' := [(cA, .long), (cB, .long)]) [0, 1] rfl
  have hKm : va_K (dC, dI) vwCl [(cC, .long), (cD, .long), (cE, .long)] s := hK.sub (tys' := [(cC, .long), (cD, .long), (cE, .long)]) [2, 3, 4] rfl
  by_cases hz : xs (i + 3) = 0
  · refine lv_aload_n hx hb dL_law_159 rfl (lv_at hl 1 rfl) ?_
    refine lv_aload_n hx hb dL_law_160 rfl (lv_at hl 0 rfl) ?_
    refine lv_iload_n hx hb dL_law_161 rfl (lv_at hl 3 rfl) ?_
    refine lv_iconst (v := (1 : Int32)) hx hb dL_law_162 (by decide) ?_
    refine lv_iadd hx hb dL_law_163 ?_
    refine kt_i (v := nI (i + 1)) (nI_add i 1) ?_
    refine ks_ld hx hb hX hbl hbA hS (i := i + 1) (by omega) (by omega) dL_law_164 ?_
    refine lv_aload_n hx hb dL_law_165 rfl (lv_at hl 0 rfl) ?_
    refine lv_iload_n hx hb dL_law_166 rfl (lv_at hl 3 rfl) ?_
    refine lv_iconst (v := (2 : Int32)) hx hb dL_law_167 (by decide) ?_
    refine lv_iadd hx hb dL_law_168 ?_
    refine kt_i (v := nI (i + 2)) (nI_add i 2) ?_
    refine ks_ld hx hb hX hbl hbA hS (i := i + 2) (by omega) (by omega) dL_law_169 ?_
    refine lv_aload_n hx hb dL_law_170 rfl (lv_at hl 0 rfl) ?_
    refine lv_iload_n hx hb dL_law_171 rfl (lv_at hl 3 rfl) ?_
    refine lv_iconst (v := (3 : Int32)) hx hb dL_law_172 (by decide) ?_
    refine lv_iadd hx hb dL_law_173 ?_
    refine kt_i (v := nI (i + 3)) (nI_add i 3) ?_
    refine ks_ld hx hb hX hbl hbA hS (i := i + 3) (by omega) (by omega) dL_law_174 ?_
    refine lv_if_eq (tgt := 182) hx hb dL_law_175 (by decide) (fun _ => ?_) (fun hc => absurd hz hc)
    refine lv_iconst (v := (0 : Int32)) hx hb dL_law_182 (by decide) ?_
    have hPc := hP.sub (ws' := w3 x0 x1 x2 cA cB f g) [0, 1, 2] rfl
    have hDc := hD.sub (ws' := w3 x0 x1 x2 cA cB f g) [0, 1, 2] (by decide) rfl
    refine kv_i (As := [.int (xs (i + 1)), .int (xs (i + 2)), .int (0 : Int32)]) (rest := []) (ci := 0) (q := (RX0, TX0, 2)) (wc := w3 x0 x1 x2 cA cB f g) (wr := w4 m0 m1 m2 m3 cC cD cE f g' u (nI ks)) ⟨hx, hb, hml, hown, hts⟩ (m_transform l dC dI x0 x1 x2 _ cA cB f g (xs (i + 1)) (xs (i + 2)) (0 : Int32)) (cwV 3 hts gL_law_X0_transform rfl rfl rfl (by decide +kernel) ⟨Nat.le_of_ble_eq_true rfl, Nat.le_of_ble_eq_true rfl⟩) hK hKx hP hD hS hA [0, 1, 2] [3, 4, 5, 6] rfl rfl rfl (by decide) hPc hDc rfl rfl rfl hl.1 rfl (Nat.le_of_ble_eq_true rfl) dL_law_183 ⟨Nat.le_of_ble_eq_true rfl, Nat.le_of_ble_eq_true rfl⟩ (fun r1 w1 H locs hr1 hP hD hS => ?_)
    obtain ⟨f2, e1, o1⟩ : ∃ f2, w1 = w3 x0 x1 x2 cA cB f2 g ∧ oT f (xs (i + 1)) (xs (i + 2)) (0 : Int32) r1 f2 := by
      rcases hr1 with ⟨a1, a2, a3⟩ | ⟨a1, L1, P1, v1, a2, a3, a4, a5⟩
      · exact ⟨_, a3, Or.inl ⟨a1, a2, rfl⟩⟩
      · exact ⟨_, a5, Or.inr ⟨a1, L1, P1, v1, a2, a3, a4, rfl⟩⟩
    subst e1
    have hP : va_P (dC, dI) vwCl (wM x0 x1 x2 cA cB m0 m1 m2 m3 cC cD cE f2 g f g' u (nI ks)) H := hP
    have hD : va_D (fun q : Nat => s.heap.size ≤ q) (wM x0 x1 x2 cA cB m0 m1 m2 m3 cC cD cE f2 g f g' u (nI ks)) := hD
    refine lv_aload_n hx hb dL_law_186 rfl (lv_at hl 2 rfl) ?_
    refine lv_aload_n hx hb dL_law_187 rfl (lv_at hl 0 rfl) ?_
    refine lv_iload_n hx hb dL_law_188 rfl (lv_at hl 3 rfl) ?_
    refine lv_iconst (v := (1 : Int32)) hx hb dL_law_189 (by decide) ?_
    refine lv_iadd hx hb dL_law_190 ?_
    refine kt_i (v := nI (i + 1)) (nI_add i 1) ?_
    refine ks_ld hx hb hX hbl hbA hS (i := i + 1) (by omega) (by omega) dL_law_191 ?_
    refine lv_aload_n hx hb dL_law_192 rfl (lv_at hl 0 rfl) ?_
    refine lv_iload_n hx hb dL_law_193 rfl (lv_at hl 3 rfl) ?_
    refine lv_iconst (v := (2 : Int32)) hx hb dL_law_194 (by decide) ?_
    refine lv_iadd hx hb dL_law_195 ?_
    refine kt_i (v := nI (i + 2)) (nI_add i 2) ?_
    refine ks_ld hx hb hX hbl hbA hS (i := i + 2) (by omega) (by omega) dL_law_196 ?_
    refine lv_aload_n hx hb dL_law_197 rfl (lv_at hl 0 rfl) ?_
    refine lv_iload_n hx hb dL_law_198 rfl (lv_at hl 3 rfl) ?_
    refine lv_iconst (v := (3 : Int32)) hx hb dL_law_199 (by decide) ?_
    refine lv_iadd hx hb dL_law_200 ?_
    refine kt_i (v := nI (i + 3)) (nI_add i 3) ?_
    refine ks_ld hx hb hX hbl hbA hS (i := i + 3) (by omega) (by omega) dL_law_201 ?_
    refine lv_if_eq (tgt := 209) hx hb dL_law_202 (by decide) (fun _ => ?_) (fun hc => absurd hz hc)
    refine lv_iconst (v := (0 : Int32)) hx hb dL_law_209 (by decide) ?_
    have hPc := hP.sub (ws' := w4 m0 m1 m2 m3 cC cD cE f g' u (nI ks)) [0, 1, 2, 3] rfl
    have hDc := hD.sub (ws' := w4 m0 m1 m2 m3 cC cD cE f g' u (nI ks)) [0, 1, 2, 3] (by decide) rfl
    refine kv_i (As := [.int (xs (i + 1)), .int (xs (i + 2)), .int (0 : Int32)]) (rest := [.int r1]) (ci := 1) (q := (RX1, TX1, 4)) (wc := w4 m0 m1 m2 m3 cC cD cE f g' u (nI ks)) (wr := w3 x0 x1 x2 cA cB f2 g) ⟨hx, hb, hml, hown, hts⟩ (k_transform l dC dI m0 m1 m2 m3 _ cC cD cE f g' u (nI ks) (xs (i + 1)) (xs (i + 2)) (0 : Int32)) (cwV 3 hts gL_law_X1_transform rfl rfl rfl (by decide +kernel) ⟨Nat.le_of_ble_eq_true rfl, Nat.le_of_ble_eq_true rfl⟩) hK hKm hP hD hS hA [0, 1, 2, 3] [4, 5, 6] rfl rfl rfl (by decide) hPc hDc rfl rfl rfl hl.1 rfl (Nat.le_of_ble_eq_true rfl) dL_law_210 ⟨Nat.le_of_ble_eq_true rfl, Nat.le_of_ble_eq_true rfl⟩ (fun r2 w2 H locs hr2 hP hD hS => ?_)
    obtain ⟨f3, u3, e2, o2⟩ : ∃ f3 u3, w2 = w4 m0 m1 m2 m3 cC cD cE f3 g' u3 (nI ks) ∧ oT f (xs (i + 1)) (xs (i + 2)) (0 : Int32) r2 f3 := by
      rcases hr2 with ⟨a1, a2, a3⟩ | ⟨a1, L1, P1, v1, u3, a2, a3, a4, a5⟩
      · exact ⟨_, _, a3, Or.inl ⟨a1, a2, rfl⟩⟩
      · exact ⟨_, _, a5, Or.inr ⟨a1, L1, P1, v1, a2, a3, a4, rfl⟩⟩
    subst e2
    obtain ⟨e3, e4⟩ := oT_un o1 o2
    subst e4
    have hP : va_P (dC, dI) vwCl (wX x0 x1 x2 cA cB m0 m1 m2 m3 cC cD cE f2 g f2 g' u3 (nI ks)) H := hP
    have hD : va_D (fun q : Nat => s.heap.size ≤ q) (wX x0 x1 x2 cA cB m0 m1 m2 m3 cC cD cE f2 g f2 g' u3 (nI ks)) := hD
    refine lv_icmp_eq (tgt := 308) hx hb dL_law_213 (by decide) (fun _ => ?_) (fun hc => absurd (e3) hc)
    exact tail f2 g g' u3 ks hks hrel H locs hP hD hS ls hl
  · refine lv_aload_n hx hb dL_law_159 rfl (lv_at hl 1 rfl) ?_
    refine lv_aload_n hx hb dL_law_160 rfl (lv_at hl 0 rfl) ?_
    refine lv_iload_n hx hb dL_law_161 rfl (lv_at hl 3 rfl) ?_
    refine lv_iconst (v := (1 : Int32)) hx hb dL_law_162 (by decide) ?_
    refine lv_iadd hx hb dL_law_163 ?_
    refine kt_i (v := nI (i + 1)) (nI_add i 1) ?_
    refine ks_ld hx hb hX hbl hbA hS (i := i + 1) (by omega) (by omega) dL_law_164 ?_
    refine lv_aload_n hx hb dL_law_165 rfl (lv_at hl 0 rfl) ?_
    refine lv_iload_n hx hb dL_law_166 rfl (lv_at hl 3 rfl) ?_
    refine lv_iconst (v := (2 : Int32)) hx hb dL_law_167 (by decide) ?_
    refine lv_iadd hx hb dL_law_168 ?_
    refine kt_i (v := nI (i + 2)) (nI_add i 2) ?_
    refine ks_ld hx hb hX hbl hbA hS (i := i + 2) (by omega) (by omega) dL_law_169 ?_
    refine lv_aload_n hx hb dL_law_170 rfl (lv_at hl 0 rfl) ?_
    refine lv_iload_n hx hb dL_law_171 rfl (lv_at hl 3 rfl) ?_
    refine lv_iconst (v := (3 : Int32)) hx hb dL_law_172 (by decide) ?_
    refine lv_iadd hx hb dL_law_173 ?_
    refine kt_i (v := nI (i + 3)) (nI_add i 3) ?_
    refine ks_ld hx hb hX hbl hbA hS (i := i + 3) (by omega) (by omega) dL_law_174 ?_
    refine lv_if_eq (tgt := 182) hx hb dL_law_175 (by decide) (fun hc => absurd hc hz) (fun _ => ?_)
    refine lv_iconst (v := (1 : Int32)) hx hb dL_law_178 (by decide) ?_
    refine lv_goto (tgt := 183) hx hb dL_law_179 (by decide) ?_
    have hPc := hP.sub (ws' := w3 x0 x1 x2 cA cB f g) [0, 1, 2] rfl
    have hDc := hD.sub (ws' := w3 x0 x1 x2 cA cB f g) [0, 1, 2] (by decide) rfl
    refine kv_i (As := [.int (xs (i + 1)), .int (xs (i + 2)), .int (1 : Int32)]) (rest := []) (ci := 0) (q := (RX0, TX0, 2)) (wc := w3 x0 x1 x2 cA cB f g) (wr := w4 m0 m1 m2 m3 cC cD cE f g' u (nI ks)) ⟨hx, hb, hml, hown, hts⟩ (m_transform l dC dI x0 x1 x2 _ cA cB f g (xs (i + 1)) (xs (i + 2)) (1 : Int32)) (cwV 3 hts gL_law_X0_transform rfl rfl rfl (by decide +kernel) ⟨Nat.le_of_ble_eq_true rfl, Nat.le_of_ble_eq_true rfl⟩) hK hKx hP hD hS hA [0, 1, 2] [3, 4, 5, 6] rfl rfl rfl (by decide) hPc hDc rfl rfl rfl hl.1 rfl (Nat.le_of_ble_eq_true rfl) dL_law_183 ⟨Nat.le_of_ble_eq_true rfl, Nat.le_of_ble_eq_true rfl⟩ (fun r1 w1 H locs hr1 hP hD hS => ?_)
    obtain ⟨f2, e1, o1⟩ : ∃ f2, w1 = w3 x0 x1 x2 cA cB f2 g ∧ oT f (xs (i + 1)) (xs (i + 2)) (1 : Int32) r1 f2 := by
      rcases hr1 with ⟨a1, a2, a3⟩ | ⟨a1, L1, P1, v1, a2, a3, a4, a5⟩
      · exact ⟨_, a3, Or.inl ⟨a1, a2, rfl⟩⟩
      · exact ⟨_, a5, Or.inr ⟨a1, L1, P1, v1, a2, a3, a4, rfl⟩⟩
    subst e1
    have hP : va_P (dC, dI) vwCl (wM x0 x1 x2 cA cB m0 m1 m2 m3 cC cD cE f2 g f g' u (nI ks)) H := hP
    have hD : va_D (fun q : Nat => s.heap.size ≤ q) (wM x0 x1 x2 cA cB m0 m1 m2 m3 cC cD cE f2 g f g' u (nI ks)) := hD
    refine lv_aload_n hx hb dL_law_186 rfl (lv_at hl 2 rfl) ?_
    refine lv_aload_n hx hb dL_law_187 rfl (lv_at hl 0 rfl) ?_
    refine lv_iload_n hx hb dL_law_188 rfl (lv_at hl 3 rfl) ?_
    refine lv_iconst (v := (1 : Int32)) hx hb dL_law_189 (by decide) ?_
    refine lv_iadd hx hb dL_law_190 ?_
    refine kt_i (v := nI (i + 1)) (nI_add i 1) ?_
    refine ks_ld hx hb hX hbl hbA hS (i := i + 1) (by omega) (by omega) dL_law_191 ?_
    refine lv_aload_n hx hb dL_law_192 rfl (lv_at hl 0 rfl) ?_
    refine lv_iload_n hx hb dL_law_193 rfl (lv_at hl 3 rfl) ?_
    refine lv_iconst (v := (2 : Int32)) hx hb dL_law_194 (by decide) ?_
    refine lv_iadd hx hb dL_law_195 ?_
    refine kt_i (v := nI (i + 2)) (nI_add i 2) ?_
    refine ks_ld hx hb hX hbl hbA hS (i := i + 2) (by omega) (by omega) dL_law_196 ?_
    refine lv_aload_n hx hb dL_law_197 rfl (lv_at hl 0 rfl) ?_
    refine lv_iload_n hx hb dL_law_198 rfl (lv_at hl 3 rfl) ?_
    refine lv_iconst (v := (3 : Int32)) hx hb dL_law_199 (by decide) ?_
    refine lv_iadd hx hb dL_law_200 ?_
    refine kt_i (v := nI (i + 3)) (nI_add i 3) ?_
    refine ks_ld hx hb hX hbl hbA hS (i := i + 3) (by omega) (by omega) dL_law_201 ?_
    refine lv_if_eq (tgt := 209) hx hb dL_law_202 (by decide) (fun hc => absurd hc hz) (fun _ => ?_)
    refine lv_iconst (v := (1 : Int32)) hx hb dL_law_205 (by decide) ?_
    refine lv_goto (tgt := 210) hx hb dL_law_206 (by decide) ?_
    have hPc := hP.sub (ws' := w4 m0 m1 m2 m3 cC cD cE f g' u (nI ks)) [0, 1, 2, 3] rfl
    have hDc := hD.sub (ws' := w4 m0 m1 m2 m3 cC cD cE f g' u (nI ks)) [0, 1, 2, 3] (by decide) rfl
    refine kv_i (As := [.int (xs (i + 1)), .int (xs (i + 2)), .int (1 : Int32)]) (rest := [.int r1]) (ci := 1) (q := (RX1, TX1, 4)) (wc := w4 m0 m1 m2 m3 cC cD cE f g' u (nI ks)) (wr := w3 x0 x1 x2 cA cB f2 g) ⟨hx, hb, hml, hown, hts⟩ (k_transform l dC dI m0 m1 m2 m3 _ cC cD cE f g' u (nI ks) (xs (i + 1)) (xs (i + 2)) (1 : Int32)) (cwV 3 hts gL_law_X1_transform rfl rfl rfl (by decide +kernel) ⟨Nat.le_of_ble_eq_true rfl, Nat.le_of_ble_eq_true rfl⟩) hK hKm hP hD hS hA [0, 1, 2, 3] [4, 5, 6] rfl rfl rfl (by decide) hPc hDc rfl rfl rfl hl.1 rfl (Nat.le_of_ble_eq_true rfl) dL_law_210 ⟨Nat.le_of_ble_eq_true rfl, Nat.le_of_ble_eq_true rfl⟩ (fun r2 w2 H locs hr2 hP hD hS => ?_)
    obtain ⟨f3, u3, e2, o2⟩ : ∃ f3 u3, w2 = w4 m0 m1 m2 m3 cC cD cE f3 g' u3 (nI ks) ∧ oT f (xs (i + 1)) (xs (i + 2)) (1 : Int32) r2 f3 := by
      rcases hr2 with ⟨a1, a2, a3⟩ | ⟨a1, L1, P1, v1, u3, a2, a3, a4, a5⟩
      · exact ⟨_, _, a3, Or.inl ⟨a1, a2, rfl⟩⟩
      · exact ⟨_, _, a5, Or.inr ⟨a1, L1, P1, v1, a2, a3, a4, rfl⟩⟩
    subst e2
    obtain ⟨e3, e4⟩ := oT_un o1 o2
    subst e4
    have hP : va_P (dC, dI) vwCl (wX x0 x1 x2 cA cB m0 m1 m2 m3 cC cD cE f2 g f2 g' u3 (nI ks)) H := hP
    have hD : va_D (fun q : Nat => s.heap.size ≤ q) (wX x0 x1 x2 cA cB m0 m1 m2 m3 cC cD cE f2 g f2 g' u3 (nI ks)) := hD
    refine lv_icmp_eq (tgt := 308) hx hb dL_law_213 (by decide) (fun _ => ?_) (fun hc => absurd (e3) hc)
    exact tail f2 g g' u3 ks hks hrel H locs hP hD hS ls hl
set_option maxHeartbeats 4000000 in
set_option maxRecDepth 100000 in
theorem law_keep {p : Program} {l : Launch} {e : Env} {s : State} {m : MethodId} {below : List Frame} {meth : Method} {c : Code} {dC : Nat → ClassId} {dI : Nat → Nat → Nat} {b L : Nat} {xs : Nat → Int32} {x0 x1 x2 m0 m1 m2 m3 : Nat} {cA cB cC cD cE : ClassId} (hL : L ≤ 2048) (C0 : lw_At p s m meth c b L xs) (hK : va_K (dC, dI) vwCl [(cA, .long), (cB, .long), (cC, .long), (cD, .long), (cE, .long)] s) {i : Nat} (hi : i + 4 ≤ L) (tail : ∀ (f g g' u : Nat → Int64) (ks : Nat), ks ≤ 1024 → zrel g g' ks → ∀ (H : Heap) (locs : List Loc), va_P (dC, dI) vwCl (wX x0 x1 x2 cA cB m0 m1 m2 m3 cC cD cE f g f g' u (nI ks)) H → va_D (fun q : Nat => s.heap.size ≤ q) (wX x0 x1 x2 cA cB m0 m1 m2 m3 cC cD cE f g f g' u (nI ks)) → va_S (fun q : Nat => s.heap.size ≤ q) s.heap H locs → ∀ (ls : Array Slot), lv_has ls 4 [(0, .ref b), (1, .ref x0), (2, .ref m0), (3, .int (nI i))] → W p l e room_1 s m #[Value.ref b] below meth c H locs 7 5126 (lw_Z below #[Value.ref b] s) (F0 m 308 ls [])) (f g g' u : Nat → Int64) (ks : Nat) (hks : ks ≤ 1024) (hrel : zrel g g' ks) (H : Heap) (locs : List Loc) (hP : va_P (dC, dI) vwCl (wX x0 x1 x2 cA cB m0 m1 m2 m3 cC cD cE f g f g' u (nI ks)) H) (hD : va_D (fun q : Nat => s.heap.size ≤ q) (wX x0 x1 x2 cA cB m0 m1 m2 m3 cC cD cE f g f g' u (nI ks))) (hS : va_S (fun q : Nat => s.heap.size ≤ q) s.heap H locs) (ls : Array Slot) (hl : lv_has ls 4 [(0, .ref b), (1, .ref x0), (2, .ref m0), (3, .int (nI i))]) : W p l e room_1 s m #[Value.ref b] below meth c H locs 7 5126 (lw_Z below #[Value.ref b] s) (F0 m 218 ls []) := by
  obtain ⟨hx, hb, hr, hml, hown, hts, hX, hbl, hlocks, hgv⟩ := C0
  have hown : s.vm.findClass RL = some m.cls := hown
  have hts : ∀ w ∈ wsL_law, w.before #[Value.ref b] s = true := fun w h => hts w (wsL_law_in w h)
  have hA : ∀ q : Nat, s.heap.size ≤ q → (fun q : Nat => s.heap.size ≤ q) q := fun _ h => h
  have hbA : ¬ (fun q : Nat => s.heap.size ≤ q) b := Nat.not_le.mpr hbl
  have hKx : va_K (dC, dI) vwCl [(cA, .long), (cB, .long)] s := hK.sub (tys' := [(cA, .long), (cB, .long)]) [0, 1] rfl
  have hKm : va_K (dC, dI) vwCl [(cC, .long), (cD, .long), (cE, .long)] s := hK.sub (tys' := [(cC, .long), (cD, .long), (cE, .long)]) [2, 3, 4] rfl
  refine lv_aload_n hx hb dL_law_218 rfl (lv_at hl 1 rfl) ?_
  refine lv_aload_n hx hb dL_law_219 rfl (lv_at hl 0 rfl) ?_
  refine lv_iload_n hx hb dL_law_220 rfl (lv_at hl 3 rfl) ?_
  refine lv_iconst (v := (1 : Int32)) hx hb dL_law_221 (by decide) ?_
  refine lv_iadd hx hb dL_law_222 ?_
  refine kt_i (v := nI (i + 1)) (nI_add i 1) ?_
  refine ks_ld hx hb hX hbl hbA hS (i := i + 1) (by omega) (by omega) dL_law_223 ?_
  have hPc := hP.sub (ws' := w3 x0 x1 x2 cA cB f g) [0, 1, 2] rfl
  have hDc := hD.sub (ws' := w3 x0 x1 x2 cA cB f g) [0, 1, 2] (by decide) rfl
  refine kv_i (As := [.int (xs (i + 1))]) (rest := []) (ci := 0) (q := (RX0, TX0, 2)) (wc := w3 x0 x1 x2 cA cB f g) (wr := w4 m0 m1 m2 m3 cC cD cE f g' u (nI ks)) ⟨hx, hb, hml, hown, hts⟩ (m_keep l dC dI x0 x1 x2 _ cA cB f g (xs (i + 1))) (cwV 1 hts gL_law_X0_keep rfl rfl rfl (by decide +kernel) ⟨Nat.le_of_ble_eq_true rfl, Nat.le_of_ble_eq_true rfl⟩) hK hKx hP hD hS hA [0, 1, 2] [3, 4, 5, 6] rfl rfl rfl (by decide) hPc hDc rfl rfl rfl hl.1 rfl (Nat.le_of_ble_eq_true rfl) dL_law_224 ⟨Nat.le_of_ble_eq_true rfl, Nat.le_of_ble_eq_true rfl⟩ (fun r1 w1 H locs hr1 hP hD hS => ?_)
  obtain ⟨g2, e1, o1⟩ : ∃ g2, w1 = w3 x0 x1 x2 cA cB f g2 ∧ ((r1 = 1 ∧ ∃ j, j ≤ 1024 ∧ xs (i + 1) = nI j ∧ g2 = zpt 1024 (fun t => if t < j then f t else lN 0) g) ∨ (r1 = 0 ∧ (¬ ∃ j, j ≤ 1024 ∧ xs (i + 1) = nI j) ∧ g2 = g)) := by
    rcases hr1 with ⟨a1, j, a2, a3, a4⟩ | ⟨a1, a2, a3⟩
    · exact ⟨_, a4, Or.inl ⟨a1, j, a2, a3, rfl⟩⟩
    · exact ⟨_, a3, Or.inr ⟨a1, a2, rfl⟩⟩
  subst e1
  have hP : va_P (dC, dI) vwCl (wM x0 x1 x2 cA cB m0 m1 m2 m3 cC cD cE f g2 f g' u (nI ks)) H := hP
  have hD : va_D (fun q : Nat => s.heap.size ≤ q) (wM x0 x1 x2 cA cB m0 m1 m2 m3 cC cD cE f g2 f g' u (nI ks)) := hD
  refine lv_aload_n hx hb dL_law_227 rfl (lv_at hl 2 rfl) ?_
  refine lv_aload_n hx hb dL_law_228 rfl (lv_at hl 0 rfl) ?_
  refine lv_iload_n hx hb dL_law_229 rfl (lv_at hl 3 rfl) ?_
  refine lv_iconst (v := (1 : Int32)) hx hb dL_law_230 (by decide) ?_
  refine lv_iadd hx hb dL_law_231 ?_
  refine kt_i (v := nI (i + 1)) (nI_add i 1) ?_
  refine ks_ld hx hb hX hbl hbA hS (i := i + 1) (by omega) (by omega) dL_law_232 ?_
  have hPc := hP.sub (ws' := w4 m0 m1 m2 m3 cC cD cE f g' u (nI ks)) [0, 1, 2, 3] rfl
  have hDc := hD.sub (ws' := w4 m0 m1 m2 m3 cC cD cE f g' u (nI ks)) [0, 1, 2, 3] (by decide) rfl
  refine kv_i (As := [.int (xs (i + 1))]) (rest := [.int r1]) (ci := 1) (q := (RX1, TX1, 4)) (wc := w4 m0 m1 m2 m3 cC cD cE f g' u (nI ks)) (wr := w3 x0 x1 x2 cA cB f g2) ⟨hx, hb, hml, hown, hts⟩ (k_keep l dC dI m0 m1 m2 m3 _ cC cD cE f g' u (nI ks) (xs (i + 1))) (cwV 1 hts gL_law_X1_keep rfl rfl rfl (by decide +kernel) ⟨Nat.le_of_ble_eq_true rfl, Nat.le_of_ble_eq_true rfl⟩) hK hKm hP hD hS hA [0, 1, 2, 3] [4, 5, 6] rfl rfl rfl (by decide) hPc hDc rfl rfl rfl hl.1 rfl (Nat.le_of_ble_eq_true rfl) dL_law_233 ⟨Nat.le_of_ble_eq_true rfl, Nat.le_of_ble_eq_true rfl⟩ (fun r2 w2 H locs hr2 hP hD hS => ?_)
  obtain ⟨g3, k3, e2, e3, k4, k5⟩ : ∃ g3 k3, w2 = w4 m0 m1 m2 m3 cC cD cE f g3 u (nI k3) ∧ r1 = r2 ∧ k3 ≤ 1024 ∧ zrel g2 g3 k3 := by
    rcases hr2 with ⟨a1, j, a2, a3, a4⟩ | ⟨a1, a2, a3⟩ <;> rcases o1 with ⟨b1, j', b2, b3, b4⟩ | ⟨b1, b2, b3⟩
    · have := nI_inj (by omega) (by omega) a3 b3
      subst this
      exact ⟨_, j, a4, by rw [a1, b1], a2, by rw [b4]; exact zrel_keep hks a2 hrel⟩
    · exact absurd ⟨j, a2, a3⟩ b2
    · exact absurd ⟨j', b2, b3⟩ a2
    · exact ⟨_, ks, a3, by rw [a1, b1], hks, by rw [b3]; exact hrel⟩
  subst e2
  have hP : va_P (dC, dI) vwCl (wX x0 x1 x2 cA cB m0 m1 m2 m3 cC cD cE f g2 f g3 u (nI k3)) H := hP
  have hD : va_D (fun q : Nat => s.heap.size ≤ q) (wX x0 x1 x2 cA cB m0 m1 m2 m3 cC cD cE f g2 f g3 u (nI k3)) := hD
  refine lv_icmp_eq (tgt := 308) hx hb dL_law_236 (by decide) (fun _ => ?_) (fun hc => absurd (e3) hc)
  exact tail f g2 g3 u k3 k4 k5 H locs hP hD hS ls hl
set_option maxHeartbeats 4000000 in
set_option maxRecDepth 100000 in
theorem law_times {p : Program} {l : Launch} {e : Env} {s : State} {m : MethodId} {below : List Frame} {meth : Method} {c : Code} {dC : Nat → ClassId} {dI : Nat → Nat → Nat} {b L : Nat} {xs : Nat → Int32} {x0 x1 x2 m0 m1 m2 m3 : Nat} {cA cB cC cD cE : ClassId} (hL : L ≤ 2048) (C0 : lw_At p s m meth c b L xs) (hK : va_K (dC, dI) vwCl [(cA, .long), (cB, .long), (cC, .long), (cD, .long), (cE, .long)] s) {i : Nat} (hi : i + 4 ≤ L) (tail : ∀ (f g g' u : Nat → Int64) (ks : Nat), ks ≤ 1024 → zrel g g' ks → ∀ (H : Heap) (locs : List Loc), va_P (dC, dI) vwCl (wX x0 x1 x2 cA cB m0 m1 m2 m3 cC cD cE f g f g' u (nI ks)) H → va_D (fun q : Nat => s.heap.size ≤ q) (wX x0 x1 x2 cA cB m0 m1 m2 m3 cC cD cE f g f g' u (nI ks)) → va_S (fun q : Nat => s.heap.size ≤ q) s.heap H locs → ∀ (ls : Array Slot), lv_has ls 4 [(0, .ref b), (1, .ref x0), (2, .ref m0), (3, .int (nI i))] → W p l e room_1 s m #[Value.ref b] below meth c H locs 7 5126 (lw_Z below #[Value.ref b] s) (F0 m 308 ls [])) (f g g' u : Nat → Int64) (ks : Nat) (hks : ks ≤ 1024) (hrel : zrel g g' ks) (H : Heap) (locs : List Loc) (hP : va_P (dC, dI) vwCl (wX x0 x1 x2 cA cB m0 m1 m2 m3 cC cD cE f g f g' u (nI ks)) H) (hD : va_D (fun q : Nat => s.heap.size ≤ q) (wX x0 x1 x2 cA cB m0 m1 m2 m3 cC cD cE f g f g' u (nI ks))) (hS : va_S (fun q : Nat => s.heap.size ≤ q) s.heap H locs) (ls : Array Slot) (hl : lv_has ls 4 [(0, .ref b), (1, .ref x0), (2, .ref m0), (3, .int (nI i))]) : W p l e room_1 s m #[Value.ref b] below meth c H locs 7 5126 (lw_Z below #[Value.ref b] s) (F0 m 241 ls []) := by
  obtain ⟨hx, hb, hr, hml, hown, hts, hX, hbl, hlocks, hgv⟩ := C0
  have hown : s.vm.findClass RL = some m.cls := hown
  have hts : ∀ w ∈ wsL_law, w.before #[Value.ref b] s = true := fun w h => hts w (wsL_law_in w h)
  have hA : ∀ q : Nat, s.heap.size ≤ q → (fun q : Nat => s.heap.size ≤ q) q := fun _ h => h
  have hbA : ¬ (fun q : Nat => s.heap.size ≤ q) b := Nat.not_le.mpr hbl
  have hKx : va_K (dC, dI) vwCl [(cA, .long), (cB, .long)] s := hK.sub (tys' := [(cA, .long), (cB, .long)]) [0, 1] rfl
  have hKm : va_K (dC, dI) vwCl [(cC, .long), (cD, .long), (cE, .long)] s := hK.sub (tys' := [(cC, .long), (cD, .long), (cE, .long)]) [2, 3, 4] rfl
  refine lv_aload_n hx hb dL_law_241 rfl (lv_at hl 1 rfl) ?_
  refine lv_aload_n hx hb dL_law_242 rfl (lv_at hl 0 rfl) ?_
  refine lv_iload_n hx hb dL_law_243 rfl (lv_at hl 3 rfl) ?_
  refine lv_iconst (v := (1 : Int32)) hx hb dL_law_244 (by decide) ?_
  refine lv_iadd hx hb dL_law_245 ?_
  refine kt_i (v := nI (i + 1)) (nI_add i 1) ?_
  refine ks_ld hx hb hX hbl hbA hS (i := i + 1) (by omega) (by omega) dL_law_246 ?_
  refine lv_aload_n hx hb dL_law_247 rfl (lv_at hl 0 rfl) ?_
  refine lv_iload_n hx hb dL_law_248 rfl (lv_at hl 3 rfl) ?_
  refine lv_iconst (v := (2 : Int32)) hx hb dL_law_249 (by decide) ?_
  refine lv_iadd hx hb dL_law_250 ?_
  refine kt_i (v := nI (i + 2)) (nI_add i 2) ?_
  refine ks_ld hx hb hX hbl hbA hS (i := i + 2) (by omega) (by omega) dL_law_251 ?_
  have hPc := hP.sub (ws' := w3 x0 x1 x2 cA cB f g) [0, 1, 2] rfl
  have hDc := hD.sub (ws' := w3 x0 x1 x2 cA cB f g) [0, 1, 2] (by decide) rfl
  refine kv_i (As := [.int (xs (i + 1)), .int (xs (i + 2))]) (rest := []) (ci := 0) (q := (RX0, TX0, 2)) (wc := w3 x0 x1 x2 cA cB f g) (wr := w4 m0 m1 m2 m3 cC cD cE f g' u (nI ks)) ⟨hx, hb, hml, hown, hts⟩ (m_times l dC dI x0 x1 x2 _ cA cB f g (xs (i + 1)) (xs (i + 2))) (cwV 2 hts gL_law_X0_times rfl rfl rfl (by decide +kernel) ⟨Nat.le_of_ble_eq_true rfl, Nat.le_of_ble_eq_true rfl⟩) hK hKx hP hD hS hA [0, 1, 2] [3, 4, 5, 6] rfl rfl rfl (by decide) hPc hDc rfl rfl rfl hl.1 rfl (Nat.le_of_ble_eq_true rfl) dL_law_252 ⟨Nat.le_of_ble_eq_true rfl, Nat.le_of_ble_eq_true rfl⟩ (fun r1 w1 H locs hr1 hP hD hS => ?_)
  obtain ⟨f2, e1, o1⟩ : ∃ f2, w1 = w3 x0 x1 x2 cA cB f2 g ∧ ((r1 = -1 ∧ (¬ zci (xs (i + 1))) ∧ f2 = f) ∨ (r1 = -2 ∧ zci (xs (i + 1)) ∧ ¬ zok (xs (i + 2)) ∧ f2 = f) ∨ (r1 = 0 ∧ ∃ j P1, j ≤ 1024 ∧ xs (i + 1) = nI j ∧ xs (i + 2) = nI P1 ∧ 3 ≤ P1 ∧ P1 ≤ 1000000007 ∧ ztd P1 ∧ f2 = zpt j (fun t => lN (zrs P1 (f t) * zrs P1 (g t) % P1)) f)) := by
    rcases hr1 with ⟨a1, a2, a3⟩ | ⟨a1, a2, a3, a4⟩ | ⟨a1, j, P1, a2, a3, a4, a5, a6, a7, a8⟩
    · exact ⟨_, a3, Or.inl ⟨a1, a2, rfl⟩⟩
    · exact ⟨_, a4, Or.inr (Or.inl ⟨a1, a2, a3, rfl⟩)⟩
    · exact ⟨_, a8, Or.inr (Or.inr ⟨a1, j, P1, a2, a3, a4, a5, a6, a7, rfl⟩)⟩
  subst e1
  have hP : va_P (dC, dI) vwCl (wM x0 x1 x2 cA cB m0 m1 m2 m3 cC cD cE f2 g f g' u (nI ks)) H := hP
  have hD : va_D (fun q : Nat => s.heap.size ≤ q) (wM x0 x1 x2 cA cB m0 m1 m2 m3 cC cD cE f2 g f g' u (nI ks)) := hD
  refine lv_aload_n hx hb dL_law_255 rfl (lv_at hl 2 rfl) ?_
  refine lv_aload_n hx hb dL_law_256 rfl (lv_at hl 0 rfl) ?_
  refine lv_iload_n hx hb dL_law_257 rfl (lv_at hl 3 rfl) ?_
  refine lv_iconst (v := (1 : Int32)) hx hb dL_law_258 (by decide) ?_
  refine lv_iadd hx hb dL_law_259 ?_
  refine kt_i (v := nI (i + 1)) (nI_add i 1) ?_
  refine ks_ld hx hb hX hbl hbA hS (i := i + 1) (by omega) (by omega) dL_law_260 ?_
  refine lv_aload_n hx hb dL_law_261 rfl (lv_at hl 0 rfl) ?_
  refine lv_iload_n hx hb dL_law_262 rfl (lv_at hl 3 rfl) ?_
  refine lv_iconst (v := (2 : Int32)) hx hb dL_law_263 (by decide) ?_
  refine lv_iadd hx hb dL_law_264 ?_
  refine kt_i (v := nI (i + 2)) (nI_add i 2) ?_
  refine ks_ld hx hb hX hbl hbA hS (i := i + 2) (by omega) (by omega) dL_law_265 ?_
  have hPc := hP.sub (ws' := w4 m0 m1 m2 m3 cC cD cE f g' u (nI ks)) [0, 1, 2, 3] rfl
  have hDc := hD.sub (ws' := w4 m0 m1 m2 m3 cC cD cE f g' u (nI ks)) [0, 1, 2, 3] (by decide) rfl
  refine kv_i (As := [.int (xs (i + 1)), .int (xs (i + 2))]) (rest := [.int r1]) (ci := 1) (q := (RX1, TX1, 4)) (wc := w4 m0 m1 m2 m3 cC cD cE f g' u (nI ks)) (wr := w3 x0 x1 x2 cA cB f2 g) ⟨hx, hb, hml, hown, hts⟩ (k_times l dC dI m0 m1 m2 m3 _ cC cD cE f g' u ks hks (xs (i + 1)) (xs (i + 2))) (cwV 2 hts gL_law_X1_times rfl rfl rfl (by decide +kernel) ⟨Nat.le_of_ble_eq_true rfl, Nat.le_of_ble_eq_true rfl⟩) hK hKm hP hD hS hA [0, 1, 2, 3] [4, 5, 6] rfl rfl rfl (by decide) hPc hDc rfl rfl rfl hl.1 rfl (Nat.le_of_ble_eq_true rfl) dL_law_266 ⟨Nat.le_of_ble_eq_true rfl, Nat.le_of_ble_eq_true rfl⟩ (fun r2 w2 H locs hr2 hP hD hS => ?_)
  obtain ⟨e2, e3⟩ : w2 = w4 m0 m1 m2 m3 cC cD cE f2 g' u (nI ks) ∧ r1 = r2 := by
    rcases hr2 with ⟨a1, a2, a3⟩ | ⟨a1, a2, a3, a4⟩ | ⟨a1, j, P1, a2, a3, a4, a5, a6, a7, a8⟩ <;> rcases o1 with ⟨b1, b2, b3⟩ | ⟨b1, b2, b3, b4⟩ | ⟨b1, j', P1', b2, b3, b4, b5, b6, b7, b8⟩
    · exact ⟨by rw [a3, b3], by rw [a1, b1]⟩
    · exact absurd b2 a2
    · exact absurd ⟨j', b2, b3⟩ a2
    · exact absurd a2 b2
    · exact ⟨by rw [a4, b4], by rw [a1, b1]⟩
    · exact absurd ⟨P1', b4, b5, b6, b7⟩ a3
    · exact absurd ⟨j, a2, a3⟩ b2
    · exact absurd ⟨P1, a4, a5, a6, a7⟩ b3
    · have h1 := nI_inj (by omega) (by omega) a3 b3
      have h2 := nI_inj (by omega) (by omega) a4 b4
      subst h1
      subst h2
      exact ⟨by rw [a8, b8, zrel_times (by omega) hrel], by rw [a1, b1]⟩
  subst e2
  have hP : va_P (dC, dI) vwCl (wX x0 x1 x2 cA cB m0 m1 m2 m3 cC cD cE f2 g f2 g' u (nI ks)) H := hP
  have hD : va_D (fun q : Nat => s.heap.size ≤ q) (wX x0 x1 x2 cA cB m0 m1 m2 m3 cC cD cE f2 g f2 g' u (nI ks)) := hD
  refine lv_icmp_eq (tgt := 308) hx hb dL_law_269 (by decide) (fun _ => ?_) (fun hc => absurd (e3) hc)
  exact tail f2 g g' u ks hks hrel H locs hP hD hS ls hl
set_option maxHeartbeats 4000000 in
set_option maxRecDepth 100000 in
theorem law_root {p : Program} {l : Launch} {e : Env} {s : State} {m : MethodId} {below : List Frame} {meth : Method} {c : Code} {dC : Nat → ClassId} {dI : Nat → Nat → Nat} {b L : Nat} {xs : Nat → Int32} {x0 x1 x2 m0 m1 m2 m3 : Nat} {cA cB cC cD cE : ClassId} (hL : L ≤ 2048) (C0 : lw_At p s m meth c b L xs) (hK : va_K (dC, dI) vwCl [(cA, .long), (cB, .long), (cC, .long), (cD, .long), (cE, .long)] s) {i : Nat} (hi : i + 4 ≤ L) (tail : ∀ (f g g' u : Nat → Int64) (ks : Nat), ks ≤ 1024 → zrel g g' ks → ∀ (H : Heap) (locs : List Loc), va_P (dC, dI) vwCl (wX x0 x1 x2 cA cB m0 m1 m2 m3 cC cD cE f g f g' u (nI ks)) H → va_D (fun q : Nat => s.heap.size ≤ q) (wX x0 x1 x2 cA cB m0 m1 m2 m3 cC cD cE f g f g' u (nI ks)) → va_S (fun q : Nat => s.heap.size ≤ q) s.heap H locs → ∀ (ls : Array Slot), lv_has ls 4 [(0, .ref b), (1, .ref x0), (2, .ref m0), (3, .int (nI i))] → W p l e room_1 s m #[Value.ref b] below meth c H locs 7 5126 (lw_Z below #[Value.ref b] s) (F0 m 308 ls [])) (f g g' u : Nat → Int64) (ks : Nat) (hks : ks ≤ 1024) (hrel : zrel g g' ks) (H : Heap) (locs : List Loc) (hP : va_P (dC, dI) vwCl (wX x0 x1 x2 cA cB m0 m1 m2 m3 cC cD cE f g f g' u (nI ks)) H) (hD : va_D (fun q : Nat => s.heap.size ≤ q) (wX x0 x1 x2 cA cB m0 m1 m2 m3 cC cD cE f g f g' u (nI ks))) (hS : va_S (fun q : Nat => s.heap.size ≤ q) s.heap H locs) (ls : Array Slot) (hl : lv_has ls 4 [(0, .ref b), (1, .ref x0), (2, .ref m0), (3, .int (nI i))]) : W p l e room_1 s m #[Value.ref b] below meth c H locs 7 5126 (lw_Z below #[Value.ref b] s) (F0 m 274 ls []) := by
  obtain ⟨hx, hb, hr, hml, hown, hts, hX, hbl, hlocks, hgv⟩ := C0
  have hown : s.vm.findClass RL = some m.cls := hown
  have hts : ∀ w ∈ wsL_law, w.before #[Value.ref b] s = true := fun w h => hts w (wsL_law_in w h)
  have hA : ∀ q : Nat, s.heap.size ≤ q → (fun q : Nat => s.heap.size ≤ q) q := fun _ h => h
  have hbA : ¬ (fun q : Nat => s.heap.size ≤ q) b := Nat.not_le.mpr hbl
  have hKx : va_K (dC, dI) vwCl [(cA, .long), (cB, .long)] s := hK.sub (tys' := [(cA, .long), (cB, .long)]) [0, 1] rfl
  have hKm : va_K (dC, dI) vwCl [(cC, .long), (cD, .long), (cE, .long)] s := hK.sub (tys' := [(cC, .long), (cD, .long), (cE, .long)]) [2, 3, 4] rfl
  refine lv_aload_n hx hb dL_law_274 rfl (lv_at hl 1 rfl) ?_
  refine lv_aload_n hx hb dL_law_275 rfl (lv_at hl 0 rfl) ?_
  refine lv_iload_n hx hb dL_law_276 rfl (lv_at hl 3 rfl) ?_
  refine lv_iconst (v := (1 : Int32)) hx hb dL_law_277 (by decide) ?_
  refine lv_iadd hx hb dL_law_278 ?_
  refine kt_i (v := nI (i + 1)) (nI_add i 1) ?_
  refine ks_ld hx hb hX hbl hbA hS (i := i + 1) (by omega) (by omega) dL_law_279 ?_
  refine lv_aload_n hx hb dL_law_280 rfl (lv_at hl 0 rfl) ?_
  refine lv_iload_n hx hb dL_law_281 rfl (lv_at hl 3 rfl) ?_
  refine lv_iconst (v := (2 : Int32)) hx hb dL_law_282 (by decide) ?_
  refine lv_iadd hx hb dL_law_283 ?_
  refine kt_i (v := nI (i + 2)) (nI_add i 2) ?_
  refine ks_ld hx hb hX hbl hbA hS (i := i + 2) (by omega) (by omega) dL_law_284 ?_
  have hPc := hP.sub (ws' := w3 x0 x1 x2 cA cB f g) [0, 1, 2] rfl
  have hDc := hD.sub (ws' := w3 x0 x1 x2 cA cB f g) [0, 1, 2] (by decide) rfl
  refine kv_l (As := [.int (xs (i + 1)), .int (xs (i + 2))]) (rest := []) (ci := 0) (q := (RX0, TX0, 2)) (wc := w3 x0 x1 x2 cA cB f g) (wr := w4 m0 m1 m2 m3 cC cD cE f g' u (nI ks)) ⟨hx, hb, hml, hown, hts⟩ (m_root l dC dI x0 x1 x2 _ cA cB f g (xs (i + 1)) (xs (i + 2))) (cwV 2 hts gL_law_X0_root rfl rfl rfl (by decide +kernel) ⟨Nat.le_of_ble_eq_true rfl, Nat.le_of_ble_eq_true rfl⟩) hK hKx hP hD hS hA [0, 1, 2] [3, 4, 5, 6] rfl rfl rfl (by decide) hPc hDc rfl rfl rfl hl.1 rfl (Nat.le_of_ble_eq_true rfl) dL_law_285 ⟨Nat.le_of_ble_eq_true rfl, Nat.le_of_ble_eq_true rfl⟩ (fun r1 w1 H locs hr1 hP hD hS => ?_)
  obtain ⟨e1, o1⟩ := hr1
  subst e1
  have hP : va_P (dC, dI) vwCl (wM x0 x1 x2 cA cB m0 m1 m2 m3 cC cD cE f g f g' u (nI ks)) H := hP
  have hD : va_D (fun q : Nat => s.heap.size ≤ q) (wM x0 x1 x2 cA cB m0 m1 m2 m3 cC cD cE f g f g' u (nI ks)) := hD
  refine lv_aload_n hx hb dL_law_288 rfl (lv_at hl 2 rfl) ?_
  refine lv_aload_n hx hb dL_law_289 rfl (lv_at hl 0 rfl) ?_
  refine lv_iload_n hx hb dL_law_290 rfl (lv_at hl 3 rfl) ?_
  refine lv_iconst (v := (1 : Int32)) hx hb dL_law_291 (by decide) ?_
  refine lv_iadd hx hb dL_law_292 ?_
  refine kt_i (v := nI (i + 1)) (nI_add i 1) ?_
  refine ks_ld hx hb hX hbl hbA hS (i := i + 1) (by omega) (by omega) dL_law_293 ?_
  refine lv_aload_n hx hb dL_law_294 rfl (lv_at hl 0 rfl) ?_
  refine lv_iload_n hx hb dL_law_295 rfl (lv_at hl 3 rfl) ?_
  refine lv_iconst (v := (2 : Int32)) hx hb dL_law_296 (by decide) ?_
  refine lv_iadd hx hb dL_law_297 ?_
  refine kt_i (v := nI (i + 2)) (nI_add i 2) ?_
  refine ks_ld hx hb hX hbl hbA hS (i := i + 2) (by omega) (by omega) dL_law_298 ?_
  have hPc := hP.sub (ws' := w4 m0 m1 m2 m3 cC cD cE f g' u (nI ks)) [0, 1, 2, 3] rfl
  have hDc := hD.sub (ws' := w4 m0 m1 m2 m3 cC cD cE f g' u (nI ks)) [0, 1, 2, 3] (by decide) rfl
  refine kv_l (As := [.int (xs (i + 1)), .int (xs (i + 2))]) (rest := [.long r1]) (ci := 1) (q := (RX1, TX1, 4)) (wc := w4 m0 m1 m2 m3 cC cD cE f g' u (nI ks)) (wr := w3 x0 x1 x2 cA cB f g) ⟨hx, hb, hml, hown, hts⟩ (k_root l dC dI m0 m1 m2 m3 _ cC cD cE f g' u (nI ks) (xs (i + 1)) (xs (i + 2))) (cwV 2 hts gL_law_X1_root rfl rfl rfl (by decide +kernel) ⟨Nat.le_of_ble_eq_true rfl, Nat.le_of_ble_eq_true rfl⟩) hK hKm hP hD hS hA [0, 1, 2, 3] [4, 5, 6] rfl rfl rfl (by decide) hPc hDc rfl rfl rfl hl.1 rfl (Nat.le_of_ble_eq_true rfl) dL_law_299 ⟨Nat.le_of_ble_eq_true rfl, Nat.le_of_ble_eq_true rfl⟩ (fun r2 w2 H locs hr2 hP hD hS => ?_)
  obtain ⟨e2, o2⟩ := hr2
  subst e2
  have hP : va_P (dC, dI) vwCl (wX x0 x1 x2 cA cB m0 m1 m2 m3 cC cD cE f g f g' u (nI ks)) H := hP
  have hD : va_D (fun q : Nat => s.heap.size ≤ q) (wX x0 x1 x2 cA cB m0 m1 m2 m3 cC cD cE f g f g' u (nI ks)) := hD
  refine W.lcmp hx hb dL_law_302 ?_
  refine lv_if_eq (tgt := 308) hx hb dL_law_303 (by decide) (fun _ => ?_) (fun hc => absurd ((lg_cmp_eq _ _).mpr (oR_un o1 o2)) hc)
  exact tail f g g' u ks hks hrel H locs hP hD hS ls hl
