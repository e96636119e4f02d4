/-! the constructors -/
set_option maxHeartbeats 4000000 in
set_option maxRecDepth 100000 in
theorem m_init (l : Launch) (dC : Nat → ClassId) (dI : Nat → Nat → Nat) (h0 sz : Nat) : Met l yX0_init wsX0_init ({ frames := 1, cells := 2, slots := 2048, locals := 20 }) (kPre (dC, dI) [] [.ref h0] sz ([(h0, .inr (0, [.null, .null]))])) (va_Qv (fun _ : Nat × Nat × ClassId × ClassId => True) (fun (u : Nat × Nat × ClassId × ClassId) t => match u with | (h1, h2, cA, cB) => kAt (dC, dI) [(cA, .long), (cB, .long)] sz ([(h0, .inr (0, [.null, .null]))]) (w3 h0 h1 h2 cA cB (fun _ => 0) (fun _ => 0)) t) (va_A ([(h0, .inr (0, [.null, .null]))]) sz)) 2 2048 (va_A ([(h0, .inr (0, [.null, .null]))]) sz) := by
  refine k_met (cc := cX0_init) (maxL := 1) (ret := none) (by decide) rfl (Nat.le_of_ble_eq_true rfl) ?_
  intro p e s m below meth c ls hx hb hr hlocks hml hown hts hnm hK hP hD hS hA hl
  have hl : lv_has ls 1 [(0, .ref h0)] := hl
  have inws : ∀ w ∈ u_ws RX0 TX0 2, w ∈ wsX0_init := by decide +kernel
  have hin : meth.name = "<init>" := hnm
  refine lv_aload_n hx hb dX0_init_0 rfl (lv_at hl 0 rfl) ?_
  refine W.objInit hx hb hown (hts (.methodLink RX0 1 objectInit) (by decide +kernel)) (hts (.instanceMethod objectInit) (by decide +kernel)) (hts _ (List.mem_cons_of_mem _ (List.mem_append_left _ (List.mem_of_getElem? (i := 2) rfl)))) rfl (by rw [hml]; exact hl.1) rfl dX0_init_1 (Nat.le_of_ble_eq_true rfl) (Nat.le_of_ble_eq_true rfl) ?_
  refine W.eq (g2 := F0 m 4 ls []) rfl ?_
  refine lv_aload_n hx hb dX0_init_4 rfl (lv_at hl 0 rfl) ?_
  refine lv_sipush (v := nI 1024) hx hb dX0_init_5 (by decide) ?_
  refine va_newa (atype := .long) (ty := .long) (a0 := (1024, .inr (.inl (fun _ => 0)))) (N' := 1024) hx hb (hts (.arrayClass .long) (by decide +kernel)) rfl hK hP hD hS hA (fun _ => rfl) (nI_pos (by decide)) (nI_clamp (by decide)) (by decide) (Nat.le_of_ble_eq_true rfl) (Nat.le_of_ble_eq_true rfl) dX0_init_8 (fun h1 cA H hK hP hD hS => ?_)
  have hK : va_K (dC, dI) vwCl [(cA, .long)] s := hK
  have hP : va_P (dC, dI) vwCl [(h0, .inr (0, [.null, .null])), (h1, .inl (cA, 1024, .inr (.inl (fun _ => 0))))] H := hP
  have hD : va_D (va_A ([(h0, .inr (0, [.null, .null]))]) sz) [(h0, .inr (0, [.null, .null])), (h1, .inl (cA, 1024, .inr (.inl (fun _ => 0))))] := hD
  refine W.widen (k := 1) (n := 1024) (by omega) (by omega) ?_
  refine va_putF (D := (dC, dI)) (ci := 0) (v := .ref h1) (ty := .array .long) (C := RX0) (T := TX0) (N := 2) hx hb hts inws tyX0 tyX0_ok nmX0 hown hK hP hD hS 0 rfl rfl 0 (by decide) (hts (.fieldLink RX0 9 "ResidueTransforms" "row" "[J") (by decide +kernel)) (fun _ h9 => h9) rfl hin rfl (by decide +kernel) rfl rfl (Nat.le_of_ble_eq_true rfl) dX0_init_10 (fun H locs hP hD hS => ?_)
  have hP : va_P (dC, dI) vwCl [(h0, .inr (0, [.ref h1, .null])), (h1, .inl (cA, 1024, .inr (.inl (fun _ => 0))))] H := hP
  have hD : va_D (va_A ([(h0, .inr (0, [.null, .null]))]) sz) [(h0, .inr (0, [.ref h1, .null])), (h1, .inl (cA, 1024, .inr (.inl (fun _ => 0))))] := hD
  refine lv_aload_n hx hb dX0_init_13 rfl (lv_at hl 0 rfl) ?_
  refine lv_sipush (v := nI 1024) hx hb dX0_init_14 (by decide) ?_
  refine va_newa (atype := .long) (ty := .long) (a0 := (1024, .inr (.inl (fun _ => 0)))) (N' := 1024) hx hb (hts (.arrayClass .long) (by decide +kernel)) rfl hK hP hD hS hA (fun _ => rfl) (nI_pos (by decide)) (nI_clamp (by decide)) (by decide) (Nat.le_of_ble_eq_true rfl) (Nat.le_of_ble_eq_true rfl) dX0_init_17 (fun h2 cB H hK hP hD hS => ?_)
  have hK : va_K (dC, dI) vwCl [(cA, .long), (cB, .long)] s := hK
  have hP : va_P (dC, dI) vwCl [(h0, .inr (0, [.ref h1, .null])), (h1, .inl (cA, 1024, .inr (.inl (fun _ => 0)))), (h2, .inl (cB, 1024, .inr (.inl (fun _ => 0))))] H := hP
  have hD : va_D (va_A ([(h0, .inr (0, [.null, .null]))]) sz) [(h0, .inr (0, [.ref h1, .null])), (h1, .inl (cA, 1024, .inr (.inl (fun _ => 0)))), (h2, .inl (cB, 1024, .inr (.inl (fun _ => 0))))] := hD
  refine W.widen (k := 2) (n := 2048) (by omega) (by omega) ?_
  refine va_putF (D := (dC, dI)) (ci := 0) (v := .ref h2) (ty := .array .long) (C := RX0) (T := TX0) (N := 2) hx hb hts inws tyX0 tyX0_ok nmX0 hown hK hP hD hS 0 rfl rfl 1 (by decide) (hts (.fieldLink RX0 13 "ResidueTransforms" "kept" "[J") (by decide +kernel)) (fun _ h9 => h9) rfl hin rfl (by decide +kernel) rfl rfl (Nat.le_of_ble_eq_true rfl) dX0_init_19 (fun H locs hP hD hS => ?_)
  have hP : va_P (dC, dI) vwCl [(h0, .inr (0, [.ref h1, .ref h2])), (h1, .inl (cA, 1024, .inr (.inl (fun _ => 0)))), (h2, .inl (cB, 1024, .inr (.inl (fun _ => 0))))] H := hP
  have hD : va_D (va_A ([(h0, .inr (0, [.null, .null]))]) sz) [(h0, .inr (0, [.ref h1, .ref h2])), (h1, .inl (cA, 1024, .inr (.inl (fun _ => 0)))), (h2, .inl (cB, 1024, .inr (.inl (fun _ => 0))))] := hD
  exact W.vret hx hb hr (fun t ht hW => ⟨⟨(h1, h2, cA, cB), rfl, trivial, by rw [ht]; exact hP, va_K.moved hW.alike hK, hD⟩, hS.F ht⟩) hS.2.2 dX0_init_22
