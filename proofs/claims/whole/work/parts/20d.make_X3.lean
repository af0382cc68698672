theorem in_X3_init_X2 : ∀ w ∈ u_ws RX2 TX2 4, w ∈ wsX3_init := by decide +kernel
theorem in_X3_init_X3 : ∀ w ∈ u_ws RX3 TX3 2, w ∈ wsX3_init := by decide +kernel
set_option maxHeartbeats 4000000 in
set_option maxRecDepth 100000 in
theorem c_X3_init {l : Launch} {D : va_G} {k : Nat → ClassId} (h sz : Nat) : ctN l yX3_init wsX3_init ({ frames := 2, cells := 24, slots := 764, locals := 32 }) D k [.ref h] [(h, .inr (3, [.null, .null]))] sz (fun u : (Nat → Nat) × (Nat → Nat) => wW k h u.1 u.2 0 0 (fun _ => 0) (fun _ _ => 0) 0 0 (fun _ => 0) (fun _ _ => 0)) (fun u : (Nat → Nat) × (Nat → Nat) => True) 24 764 := by
  refine Met.ofW (cc := cX3_init) (maxL := 1) (ret := none) (by decide) rfl ?_
  intro p e s m args below meth c s₁ B hml hv
  obtain ⟨rfl, hsz, hP, hG, hO, hD0⟩ := hv
  have hx := B.exec
  have hb := B.bytes
  have hr := B.returns
  have hts := atoms_spec (ws := wsX3_init) B.pre
  have hown : s.vm.findClass RX3 = some m.cls := findClass_of_methodNamed B.named
  have hlocks := B.notSynchronized
  have hin : meth.name = "<init>" := (name_of_methodNamed B.named B.method).1
  subst hsz
  have hD := hD0.self (sz := s.heap.size)
  generalize hAe : va_A [(h, .inr (3, [.null, .null]))] s.heap.size = A at hD ⊢
  have hA : ∀ q : Nat, s.heap.size ≤ q → A q := fun q h => by rw [← hAe]; exact Or.inr h
  have hS : va_S A s.heap s.heap [] := va_S.rf
  have hl := lv_entry ([.ref h]) (n := 1) (Nat.le_of_ble_eq_true rfl)
  rw [lg_entry_eq]
  generalize (lg_sl ([.ref h]) ++ List.replicate (1 - (lg_sl ([.ref h])).length) Slot.unset).toArray = ls at hl ⊢
  have hl : lv_has ls 1 [(0, .ref h)] := hl
  refine lv_aload_n hx hb dX3_init_0 rfl (lv_at hl 0 rfl) ?_
  refine W.objInit hx hb hown (hts (.methodLink RX3 1 objectInit) (by decide +kernel)) (hts (.instanceMethod objectInit) (by decide +kernel)) (hts (.code objectInit ⟨#[0xb1]⟩ 1 none) (by decide +kernel)) rfl (by rw [hml]; exact hl.1) rfl dX3_init_1 (Nat.le_of_ble_eq_true rfl) (Nat.le_of_ble_eq_true rfl) ?_
  refine W.eq (g2 := F0 m 4 ls []) rfl ?_
  refine lv_aload_n hx hb dX3_init_4 rfl (lv_at hl 0 rfl) ?_
  refine va_new (ci := 2) (fs := [.null, .null, .int 0, .int 0]) (C := RX2) (T := TX2) (N := 4) hx hb hts in_X3_init_X2 tyX2 tyX2_ok hown (hts (.classLink RX3 7 RX2) (by decide +kernel)) (hts (.instantiable RX2 4) (by decide +kernel)) (hts (.initialized RX2) (by decide +kernel)) hG.1 hP hD hS hA rfl (fun j hj => by rcases (show j = 0 ∨ j = 1 ∨ j = 2 ∨ j = 3 by omega) with rfl | rfl | rfl | rfl <;> rfl) (Nat.le_of_ble_eq_true rfl) (Nat.le_of_ble_eq_true rfl) dX3_init_5 (fun q1 H hP hD hS => ?_)
  have hP : va_P D vwCl (([((h, .inr (3, [.null, .null])) : Nat × va_E)]) ++ ([((q1, .inr (2, [.null, .null, .int 0, .int 0])) : Nat × va_E)])) H := hP
  have hD : va_D A (([((h, .inr (3, [.null, .null])) : Nat × va_E)]) ++ ([((q1, .inr (2, [.null, .null, .int 0, .int 0])) : Nat × va_E)])) := hD
  refine lv_dup hx hb dX3_init_8 rfl ?_
  have hp : xPerm (([((h, .inr (3, [.null, .null])) : Nat × va_E)]) ++ ([((q1, .inr (2, [.null, .null, .int 0, .int 0])) : Nat × va_E)])) (([((q1, .inr (2, [.null, .null, .int 0, .int 0])) : Nat × va_E)]) ++ ([((h, .inr (3, [.null, .null])) : Nat × va_E)])) := List.perm_append_comm
  refine xCallN (w := [((q1, .inr (2, [.null, .null, .int 0, .int 0])) : Nat × va_E)]) (r := [((h, .inr (3, [.null, .null])) : Nat × va_E)]) (va_runI (As := []) (rest := [.ref q1, .ref h]) ⟨hx, hb, hml, hown, hts⟩ (c_X2_init q1 H.size) (cwI 0 hts gX3_init_X2_init rfl rfl rfl (hts (.initialized RX2) (by decide +kernel)) (hts (.methodLink RX3 9 yX2_init) (by decide +kernel)) (hts (.instanceMethod yX2_init) (by decide +kernel)) rfl (by decide +kernel) ⟨Nat.le_of_ble_eq_true rfl, Nat.le_of_ble_eq_true rfl⟩) (xPreNS hG hO hP hD hp) rfl rfl hl.1 rfl (lv_room (Nat.le_of_ble_eq_true rfl)) dX3_init_9 ⟨Nat.le_of_ble_eq_true rfl, Nat.le_of_ble_eq_true rfl⟩) hP hD hS hA hp (fun a2 H locs h0 hP2 hD2 hS => ?_)
  clear hP hD hp
  subst h0
  have hP : va_P D vwCl (([((h, .inr (3, [.null, .null])) : Nat × va_E)]) ++ (wT k a2 0 0 (fun _ => 0) (fun _ _ => 0))) H := xP_perm List.perm_append_comm hP2
  have hD : va_D A (([((h, .inr (3, [.null, .null])) : Nat × va_E)]) ++ (wT k a2 0 0 (fun _ => 0) (fun _ _ => 0))) := xD_perm List.perm_append_comm hD2
  clear hP2 hD2
  refine va_putF (D := D) (ci := 3) (v := .ref (a2 0)) (ty := .object "GrowingCorners$Tableau") (C := RX3) (T := TX3) (N := 2) hx hb hts in_X3_init_X3 tyX3 tyX3_ok nmX3 hown hG.1 hP hD hS 0 rfl rfl 0 (by decide) (hts (.fieldLink RX3 10 "GrowingCorners$Word" "p" "LGrowingCorners$Tableau;") (by decide +kernel)) (fun _ h9 => h9) rfl hin rfl (by decide +kernel) rfl rfl (Nat.le_of_ble_eq_true rfl) dX3_init_12 (fun H locs hP hD hS => ?_)
  have hP : va_P D vwCl (([((h, .inr (3, [.ref (a2 0), .null])) : Nat × va_E)]) ++ (wT k a2 0 0 (fun _ => 0) (fun _ _ => 0))) H := hP
  have hD : va_D A (([((h, .inr (3, [.ref (a2 0), .null])) : Nat × va_E)]) ++ (wT k a2 0 0 (fun _ => 0) (fun _ _ => 0))) := hD
  refine lv_aload_n hx hb dX3_init_15 rfl (lv_at hl 0 rfl) ?_
  refine va_new (ci := 2) (fs := [.null, .null, .int 0, .int 0]) (C := RX2) (T := TX2) (N := 4) hx hb hts in_X3_init_X2 tyX2 tyX2_ok hown (hts (.classLink RX3 7 RX2) (by decide +kernel)) (hts (.instantiable RX2 4) (by decide +kernel)) (hts (.initialized RX2) (by decide +kernel)) hG.1 hP hD hS hA rfl (fun j hj => by rcases (show j = 0 ∨ j = 1 ∨ j = 2 ∨ j = 3 by omega) with rfl | rfl | rfl | rfl <;> rfl) (Nat.le_of_ble_eq_true rfl) (Nat.le_of_ble_eq_true rfl) dX3_init_16 (fun q3 H hP hD hS => ?_)
  have hP : va_P D vwCl ((([((h, .inr (3, [.ref (a2 0), .null])) : Nat × va_E)]) ++ (wT k a2 0 0 (fun _ => 0) (fun _ _ => 0))) ++ ([((q3, .inr (2, [.null, .null, .int 0, .int 0])) : Nat × va_E)])) H := hP
  have hD : va_D A ((([((h, .inr (3, [.ref (a2 0), .null])) : Nat × va_E)]) ++ (wT k a2 0 0 (fun _ => 0) (fun _ _ => 0))) ++ ([((q3, .inr (2, [.null, .null, .int 0, .int 0])) : Nat × va_E)])) := hD
  refine lv_dup hx hb dX3_init_19 rfl ?_
  have hp : xPerm ((([((h, .inr (3, [.ref (a2 0), .null])) : Nat × va_E)]) ++ (wT k a2 0 0 (fun _ => 0) (fun _ _ => 0))) ++ ([((q3, .inr (2, [.null, .null, .int 0, .int 0])) : Nat × va_E)])) (([((q3, .inr (2, [.null, .null, .int 0, .int 0])) : Nat × va_E)]) ++ (([((h, .inr (3, [.ref (a2 0), .null])) : Nat × va_E)]) ++ (wT k a2 0 0 (fun _ => 0) (fun _ _ => 0)))) := List.perm_append_comm
  refine xCallN (w := [((q3, .inr (2, [.null, .null, .int 0, .int 0])) : Nat × va_E)]) (r := ([((h, .inr (3, [.ref (a2 0), .null])) : Nat × va_E)]) ++ (wT k a2 0 0 (fun _ => 0) (fun _ _ => 0))) (va_runI (As := []) (rest := [.ref q3, .ref h]) ⟨hx, hb, hml, hown, hts⟩ (c_X2_init q3 H.size) (cwI 0 hts gX3_init_X2_init rfl rfl rfl (hts (.initialized RX2) (by decide +kernel)) (hts (.methodLink RX3 9 yX2_init) (by decide +kernel)) (hts (.instanceMethod yX2_init) (by decide +kernel)) rfl (by decide +kernel) ⟨Nat.le_of_ble_eq_true rfl, Nat.le_of_ble_eq_true rfl⟩) (xPreNS hG hO hP hD hp) rfl rfl hl.1 rfl (lv_room (Nat.le_of_ble_eq_true rfl)) dX3_init_20 ⟨Nat.le_of_ble_eq_true rfl, Nat.le_of_ble_eq_true rfl⟩) hP hD hS hA hp (fun a4 H locs h0 hP2 hD2 hS => ?_)
  clear hP hD hp
  subst h0
  have hP : va_P D vwCl ((([((h, .inr (3, [.ref (a2 0), .null])) : Nat × va_E)]) ++ (wT k a2 0 0 (fun _ => 0) (fun _ _ => 0))) ++ (wT k a4 0 0 (fun _ => 0) (fun _ _ => 0))) H := xP_perm List.perm_append_comm hP2
  have hD : va_D A ((([((h, .inr (3, [.ref (a2 0), .null])) : Nat × va_E)]) ++ (wT k a2 0 0 (fun _ => 0) (fun _ _ => 0))) ++ (wT k a4 0 0 (fun _ => 0) (fun _ _ => 0))) := xD_perm List.perm_append_comm hD2
  clear hP2 hD2
  refine va_putF (D := D) (ci := 3) (v := .ref (a4 0)) (ty := .object "GrowingCorners$Tableau") (C := RX3) (T := TX3) (N := 2) hx hb hts in_X3_init_X3 tyX3 tyX3_ok nmX3 hown hG.1 hP hD hS 0 rfl rfl 1 (by decide) (hts (.fieldLink RX3 16 "GrowingCorners$Word" "q" "LGrowingCorners$Tableau;") (by decide +kernel)) (fun _ h9 => h9) rfl hin rfl (by decide +kernel) rfl rfl (Nat.le_of_ble_eq_true rfl) dX3_init_23 (fun H locs hP hD hS => ?_)
  have hP : va_P D vwCl ((([((h, .inr (3, [.ref (a2 0), .ref (a4 0)])) : Nat × va_E)]) ++ (wT k a2 0 0 (fun _ => 0) (fun _ _ => 0))) ++ (wT k a4 0 0 (fun _ => 0) (fun _ _ => 0))) H := hP
  have hD : va_D A ((([((h, .inr (3, [.ref (a2 0), .ref (a4 0)])) : Nat × va_E)]) ++ (wT k a2 0 0 (fun _ => 0) (fun _ _ => 0))) ++ (wT k a4 0 0 (fun _ => 0) (fun _ _ => 0))) := hD
  refine W.widen (k := 24) (n := 764) (Nat.le_of_ble_eq_true rfl) (Nat.le_of_ble_eq_true rfl) ?_
  have hP : va_P D vwCl (wW k h a2 a4 0 0 (fun _ => 0) (fun _ _ => 0) 0 0 (fun _ => 0) (fun _ _ => 0)) H := xP_perm (xPermC fun _ x => by simp only [wW, List.count_append]; omega) hP
  have hD : va_D A (wW k h a2 a4 0 0 (fun _ => 0) (fun _ _ => 0) 0 0 (fun _ => 0) (fun _ _ => 0)) := xD_perm (xPermC fun _ x => by simp only [wW, List.count_append]; omega) hD
  exact W.vret hx hb hr (fun t ht hW => ⟨⟨(a2, a4), rfl, trivial, xHp ht hP, hD⟩, hS.F ht⟩) hS.2.2 dX3_init_26 hlocks
