def p_X4_box (M : Int32) (N : Int32) (C : Nat → Nat → Int32) (x1 : Int32) (x2 : Int32) (post : Int32 → Int32 → Int32 → (Nat → Nat → Int32) → Prop) : Prop := p_X4_isWithin x1 1 6 (fun r_1 => ((r_1 = 0 → post (-1) M N C) ∧ (¬ r_1 = 0 → p_X4_isWithin x2 1 6 (fun r_3 => ((r_3 = 0 → post (-1) M N C) ∧ (¬ r_3 = 0 → p_X0_reset M N C x1 x2 (fun M_5 N_6 C_7 => post 1 M_5 N_6 C_7)))))))
theorem in_X4_box_X4 : ∀ w ∈ u_ws RX4 TX4 6, w ∈ wsX4_box := by decide +kernel
theorem lk_X4_box_10 : Cond.fieldLink RX4 10 "GrowingCorners" "grid" "LGrowingCorners$Grid;" ∈ wsX4_box := by decide +kernel
set_option maxHeartbeats 4000000 in
set_option maxRecDepth 100000 in
theorem c_X4_box {l : Launch} {D : va_G} {k : Nat → ClassId} (b : Nat → Nat) (ag : Nat → Nat) (as : Nat → Nat) (ap : Nat → Nat) (aq : Nat → Nat) (aa : Nat → Nat) (ab : Nat → Nat) (M : Int32) (N : Int32) (C : Nat → Nat → Int32) (Gr : Nat → Nat → Int32) (Pr : Nat → Nat → Int64) (Pa : Nat → Nat → Int32) (I : Nat → Nat → Int64) (Ln : Nat → Int32) (Sz : Nat → Int32) (dr : Nat → Int32) (pR : Int32) (pP : Int32) (pL : Nat → Int32) (pN : Nat → Nat → Int32) (qR : Int32) (qP : Int32) (qL : Nat → Int32) (qN : Nat → Nat → Int32) (aR : Int32) (aP : Int32) (aL : Nat → Int32) (aN : Nat → Nat → Int32) (bR : Int32) (bP : Int32) (bL : Nat → Int32) (bN : Nat → Nat → Int32) (x1 : Int32) (x2 : Int32) {post : Int32 → Int32 → Int32 → (Nat → Nat → Int32) → Prop} (hf : p_X4_box M N C x1 x2 post) : ctI l yX4_box wsX4_box ({ frames := 2, cells := 0, slots := 0, locals := 46 }) D k [.ref (b 0), .int x1, .int x2] (wX k b ag as ap aq aa ab M N C Gr Pr Pa I Ln Sz dr pR pP pL pN qR qP qL qN aR aP aL aN bR bP bL bN) (fun u : Int32 × Int32 × (Nat → Nat → Int32) => wX k b ag as ap aq aa ab (u.1) (u.2.1) (u.2.2) Gr Pr Pa I Ln Sz dr pR pP pL pN qR qP qL qN aR aP aL aN bR bP bL bN) (fun (r : Int32) (u : Int32 × Int32 × (Nat → Nat → Int32)) => post r u.1 u.2.1 u.2.2) := by
  refine Met.ofW (cc := cX4_box) (maxL := 3) (ret := (some .int)) (by decide) rfl ?_
  intro p e s m args below meth c s₁ B hml hv
  obtain ⟨rfl, hP, hG, hD0⟩ := hv
  have C0 : xM p s m ([.ref (b 0), .int x1, .int x2] : List Value).toArray meth c cX4_box 3 RX4 (some .int) wsX4_box := ⟨B.exec, B.bytes, B.returns, atoms_spec (ws := wsX4_box) B.pre, findClass_of_methodNamed B.named, B.notSynchronized, hml⟩
  obtain ⟨hx, hb, hr, hts, hown, hlocks, hml⟩ := id C0
  have hD := xSelf hD0
  have hS : va_S (xIn (wX k b ag as ap aq aa ab M N C Gr Pr Pa I Ln Sz dr pR pP pL pN qR qP qL qN aR aP aL aN bR bP bL bN)) s.heap s.heap [] := va_S.rf
  generalize xIn (wX k b ag as ap aq aa ab M N C Gr Pr Pa I Ln Sz dr pR pP pL pN qR qP qL qN aR aP aL aN bR bP bL bN) = A at hD hS ⊢
  have hl := lv_entry ([.ref (b 0), .int x1, .int x2]) (n := 3) (Nat.le_of_ble_eq_true rfl)
  rw [lg_entry_eq]
  generalize (lg_sl ([.ref (b 0), .int x1, .int x2]) ++ List.replicate (3 - (lg_sl ([.ref (b 0), .int x1, .int x2])).length) Slot.unset).toArray = ls at hl ⊢
  have hl : lv_has ls 3 [(0, .ref (b 0)), (1, .int x1), (2, .int x2)] := hl
  unfold p_X4_box at hf
  refine lv_iload_n hx hb dX4_box_0 rfl (lv_at hl 1 rfl) ?_
  refine lv_iconst (v := 1) hx hb dX4_box_1 (by decide) ?_
  refine lv_bipush (v := 6) hx hb dX4_box_2 (by decide) ?_
  have hp : xPerm (wX k b ag as ap aq aa ab M N C Gr Pr Pa I Ln Sz dr pR pP pL pN qR qP qL qN aR aP aL aN bR bP bL bN) (([]) ++ (wX k b ag as ap aq aa ab M N C Gr Pr Pa I Ln Sz dr pR pP pL pN qR qP qL qN aR aP aL aN bR bP bL bN)) := (List.Perm.refl _)
  refine xCallI (w := []) (r := wX k b ag as ap aq aa ab M N C Gr Pr Pa I Ln Sz dr pR pP pL pN qR qP qL qN aR aP aL aN bR bP bL bN) (va_runS (As := [.int x1, .int 1, .int 6]) (rest := []) ⟨hx, hb, hml, hown, hts⟩ (c_X4_isWithin x1 1 6 hf) (va_cwS 3 hts gX4_box_X4_isWithin rfl rfl rfl (by decide +kernel) ⟨Nat.le_of_ble_eq_true rfl, Nat.le_of_ble_eq_true rfl⟩) (xPreS hG hP hD hp) rfl rfl hl.1 rfl (lv_room (Nat.le_of_ble_eq_true rfl)) dX4_box_4 ⟨Nat.zero_le _, Nat.zero_le _⟩) hP hD hS hp (fun _ => rfl) (fun r_1 _ H locs hf hP hD hS => ?_)
  have hP : va_P D vwCl (wX k b ag as ap aq aa ab M N C Gr Pr Pa I Ln Sz dr pR pP pL pN qR qP qL qN aR aP aL aN bR bP bL bN) H := hP
  have hD : va_D A (wX k b ag as ap aq aa ab M N C Gr Pr Pa I Ln Sz dr pR pP pL pN qR qP qL qN aR aP aL aN bR bP bL bN) := hD
  refine lv_if_eq (tgt := 20) hx hb dX4_box_7 (by decide) (fun c_2 => ?_) (fun c_2 => ?_)
  · have hf := hf.1 c_2
    refine lv_iconst (v := (-1)) hx hb dX4_box_20 (by decide) ?_
    exact W.iret (v := (-1)) hx hb hr (fun t ht hW => ⟨⟨((-1) : Int32), (M, N, C), rfl, hf, xHp ht hP⟩, hS.F ht⟩) hS.2.2 dX4_box_21 hlocks
  · have hf := hf.2 c_2
    refine lv_iload_n hx hb dX4_box_10 rfl (lv_at hl 2 rfl) ?_
    refine lv_iconst (v := 1) hx hb dX4_box_11 (by decide) ?_
    refine lv_bipush (v := 6) hx hb dX4_box_12 (by decide) ?_
    have hp : xPerm (wX k b ag as ap aq aa ab M N C Gr Pr Pa I Ln Sz dr pR pP pL pN qR qP qL qN aR aP aL aN bR bP bL bN) (([]) ++ (wX k b ag as ap aq aa ab M N C Gr Pr Pa I Ln Sz dr pR pP pL pN qR qP qL qN aR aP aL aN bR bP bL bN)) := (List.Perm.refl _)
    refine xCallI (w := []) (r := wX k b ag as ap aq aa ab M N C Gr Pr Pa I Ln Sz dr pR pP pL pN qR qP qL qN aR aP aL aN bR bP bL bN) (va_runS (As := [.int x2, .int 1, .int 6]) (rest := []) ⟨hx, hb, hml, hown, hts⟩ (c_X4_isWithin x2 1 6 hf) (va_cwS 3 hts gX4_box_X4_isWithin rfl rfl rfl (by decide +kernel) ⟨Nat.le_of_ble_eq_true rfl, Nat.le_of_ble_eq_true rfl⟩) (xPreS hG hP hD hp) rfl rfl hl.1 rfl (lv_room (Nat.le_of_ble_eq_true rfl)) dX4_box_14 ⟨Nat.zero_le _, Nat.zero_le _⟩) hP hD hS hp (fun _ => rfl) (fun r_3 _ H locs hf hP hD hS => ?_)
    have hP : va_P D vwCl (wX k b ag as ap aq aa ab M N C Gr Pr Pa I Ln Sz dr pR pP pL pN qR qP qL qN aR aP aL aN bR bP bL bN) H := hP
    have hD : va_D A (wX k b ag as ap aq aa ab M N C Gr Pr Pa I Ln Sz dr pR pP pL pN qR qP qL qN aR aP aL aN bR bP bL bN) := hD
    refine lv_if_ne (tgt := 22) hx hb dX4_box_17 (by decide) (fun c_4 => ?_) (fun c_4 => ?_)
    · have hf := hf.2 c_4
      refine lv_aload_n hx hb dX4_box_22 rfl (lv_at hl 0 rfl) ?_
      refine va_get (D := D) (ci := 4) (C := RX4) (T := TX4) (N := 6) hx hb hts in_X4_box_X4 hown hG.1 hP 0 rfl rfl 0 (by decide) (hts _ lk_X4_box_10) (fun _ h9 => h9) rfl dX4_box_23 ?_
      refine lv_iload_n hx hb dX4_box_26 rfl (lv_at hl 1 rfl) ?_
      refine lv_iload_n hx hb dX4_box_27 rfl (lv_at hl 2 rfl) ?_
      have hp : xPerm (wX k b ag as ap aq aa ab M N C Gr Pr Pa I Ln Sz dr pR pP pL pN qR qP qL qN aR aP aL aN bR bP bL bN) ((wG k ag M N C Gr Pr Pa) ++ ([((b 0, .inr (4, [.ref (ag 0), .ref (b 1), .ref (b 2), .ref (aa 0), .ref (ab 0), .ref (b 3)])) : Nat × va_E)] ++ ([((b 1, .inl (k 5, 4, rfs (fun i => as (2 * i)))) : Nat × va_E)] ++ ([((b 2, .inr (3, [.ref (ap 0), .ref (aq 0)])) : Nat × va_E)] ++ ([((b 3, .inl (k 0, 40, .inl dr)) : Nat × va_E)] ++ (wSS k as I Ln Sz ++ (wT k ap pR pP pL pN ++ (wT k aq qR qP qL qN ++ (wT k aa aR aP aL aN ++ wT k ab bR bP bL bN))))))))) := (xPermC fun _ x => by simp only [wX, wW, List.count_append]; omega)
      refine xCallV (w := wG k ag M N C Gr Pr Pa) (r := [((b 0, .inr (4, [.ref (ag 0), .ref (b 1), .ref (b 2), .ref (aa 0), .ref (ab 0), .ref (b 3)])) : Nat × va_E)] ++ ([((b 1, .inl (k 5, 4, rfs (fun i => as (2 * i)))) : Nat × va_E)] ++ ([((b 2, .inr (3, [.ref (ap 0), .ref (aq 0)])) : Nat × va_E)] ++ ([((b 3, .inl (k 0, 40, .inl dr)) : Nat × va_E)] ++ (wSS k as I Ln Sz ++ (wT k ap pR pP pL pN ++ (wT k aq qR qP qL qN ++ (wT k aa aR aP aL aN ++ wT k ab bR bP bL bN)))))))) (va_runV (As := [.int x1, .int x2]) (rest := []) ⟨hx, hb, hml, hown, hts⟩ (c_X0_reset ag M N C Gr Pr Pa x1 x2 hf) (cwV 2 hts gX4_box_X0_reset rfl rfl rfl (by decide +kernel) ⟨Nat.le_of_ble_eq_true rfl, Nat.le_of_ble_eq_true rfl⟩) (xPreV hG hP hD hp (ci := 0) rfl (i := 0) rfl) rfl rfl hl.1 rfl (lv_room (Nat.le_of_ble_eq_true rfl)) dX4_box_28 ⟨Nat.zero_le _, Nat.zero_le _⟩) hP hD hS hp (fun _ => wG_adr) (fun u H locs hf hP hD hS => ?_)
      obtain ⟨M_5, N_6, C_7⟩ := u
      have hP : va_P D vwCl (wX k b ag as ap aq aa ab M_5 N_6 C_7 Gr Pr Pa I Ln Sz dr pR pP pL pN qR qP qL qN aR aP aL aN bR bP bL bN) H := xP_perm (xPermC fun _ x => by simp only [wX, wW, List.count_append]; omega) hP
      have hD : va_D A (wX k b ag as ap aq aa ab M_5 N_6 C_7 Gr Pr Pa I Ln Sz dr pR pP pL pN qR qP qL qN aR aP aL aN bR bP bL bN) := xD_perm (xPermC fun _ x => by simp only [wX, wW, List.count_append]; omega) hD
      refine lv_iconst (v := 1) hx hb dX4_box_31 (by decide) ?_
      exact W.iret (v := 1) hx hb hr (fun t ht hW => ⟨⟨(1 : Int32), (M_5, N_6, C_7), rfl, hf, xHp ht hP⟩, hS.F ht⟩) hS.2.2 dX4_box_32 hlocks
    · have hf := hf.1 c_4
      refine lv_iconst (v := (-1)) hx hb dX4_box_20 (by decide) ?_
      exact W.iret (v := (-1)) hx hb hr (fun t ht hW => ⟨⟨((-1) : Int32), (M, N, C), rfl, hf, xHp ht hP⟩, hS.F ht⟩) hS.2.2 dX4_box_21 hlocks

def p_X4_weight (M : Int32) (N : Int32) (C : Nat → Nat → Int32) (x1 : Int32) (x2 : Int32) (x3 : Int32) (post : Int32 → (Nat → Nat → Int32) → Prop) : Prop := p_X0_hasPlace M N x1 x2 (fun r_1 => ((r_1 = 0 → post (-1) C) ∧ (¬ r_1 = 0 → p_X4_isWeight (x3.toInt64) (fun r_3 => ((r_3 = 0 → post (-1) C) ∧ (¬ r_3 = 0 → p_X0_exchange C x1 x2 x3 (fun r_6 C_5 => post r_6 C_5)))))))
theorem in_X4_weight_X4 : ∀ w ∈ u_ws RX4 TX4 6, w ∈ wsX4_weight := by decide +kernel
theorem lk_X4_weight_10 : Cond.fieldLink RX4 10 "GrowingCorners" "grid" "LGrowingCorners$Grid;" ∈ wsX4_weight := by decide +kernel
set_option maxHeartbeats 4000000 in
set_option maxRecDepth 100000 in
theorem c_X4_weight {l : Launch} {D : va_G} {k : Nat → ClassId} (b : Nat → Nat) (ag : Nat → Nat) (as : Nat → Nat) (ap : Nat → Nat) (aq : Nat → Nat) (aa : Nat → Nat) (ab : Nat → Nat) (M : Int32) (N : Int32) (C : Nat → Nat → Int32) (Gr : Nat → Nat → Int32) (Pr : Nat → Nat → Int64) (Pa : Nat → Nat → Int32) (I : Nat → Nat → Int64) (Ln : Nat → Int32) (Sz : Nat → Int32) (dr : Nat → Int32) (pR : Int32) (pP : Int32) (pL : Nat → Int32) (pN : Nat → Nat → Int32) (qR : Int32) (qP : Int32) (qL : Nat → Int32) (qN : Nat → Nat → Int32) (aR : Int32) (aP : Int32) (aL : Nat → Int32) (aN : Nat → Nat → Int32) (bR : Int32) (bP : Int32) (bL : Nat → Int32) (bN : Nat → Nat → Int32) (x1 : Int32) (x2 : Int32) (x3 : Int32) {post : Int32 → (Nat → Nat → Int32) → Prop} (hf : p_X4_weight M N C x1 x2 x3 post) : ctI l yX4_weight wsX4_weight ({ frames := 2, cells := 0, slots := 0, locals := 44 }) D k [.ref (b 0), .int x1, .int x2, .int x3] (wX k b ag as ap aq aa ab M N C Gr Pr Pa I Ln Sz dr pR pP pL pN qR qP qL qN aR aP aL aN bR bP bL bN) (fun u : (Nat → Nat → Int32) => wX k b ag as ap aq aa ab M N u Gr Pr Pa I Ln Sz dr pR pP pL pN qR qP qL qN aR aP aL aN bR bP bL bN) (fun (r : Int32) (u : (Nat → Nat → Int32)) => post r u) := by
  refine Met.ofW (cc := cX4_weight) (maxL := 4) (ret := (some .int)) (by decide) rfl ?_
  intro p e s m args below meth c s₁ B hml hv
  obtain ⟨rfl, hP, hG, hD0⟩ := hv
  have C0 : xM p s m ([.ref (b 0), .int x1, .int x2, .int x3] : List Value).toArray meth c cX4_weight 4 RX4 (some .int) wsX4_weight := ⟨B.exec, B.bytes, B.returns, atoms_spec (ws := wsX4_weight) B.pre, findClass_of_methodNamed B.named, B.notSynchronized, hml⟩
  obtain ⟨hx, hb, hr, hts, hown, hlocks, hml⟩ := id C0
  have hD := xSelf hD0
  have hS : va_S (xIn (wX k b ag as ap aq aa ab M N C Gr Pr Pa I Ln Sz dr pR pP pL pN qR qP qL qN aR aP aL aN bR bP bL bN)) s.heap s.heap [] := va_S.rf
  generalize xIn (wX k b ag as ap aq aa ab M N C Gr Pr Pa I Ln Sz dr pR pP pL pN qR qP qL qN aR aP aL aN bR bP bL bN) = A at hD hS ⊢
  have hl := lv_entry ([.ref (b 0), .int x1, .int x2, .int x3]) (n := 4) (Nat.le_of_ble_eq_true rfl)
  rw [lg_entry_eq]
  generalize (lg_sl ([.ref (b 0), .int x1, .int x2, .int x3]) ++ List.replicate (4 - (lg_sl ([.ref (b 0), .int x1, .int x2, .int x3])).length) Slot.unset).toArray = ls at hl ⊢
  have hl : lv_has ls 4 [(0, .ref (b 0)), (1, .int x1), (2, .int x2), (3, .int x3)] := hl
  unfold p_X4_weight at hf
  refine lv_aload_n hx hb dX4_weight_0 rfl (lv_at hl 0 rfl) ?_
  refine va_get (D := D) (ci := 4) (C := RX4) (T := TX4) (N := 6) hx hb hts in_X4_weight_X4 hown hG.1 hP 0 rfl rfl 0 (by decide) (hts _ lk_X4_weight_10) (fun _ h9 => h9) rfl dX4_weight_1 ?_
  refine lv_iload_n hx hb dX4_weight_4 rfl (lv_at hl 1 rfl) ?_
  refine lv_iload_n hx hb dX4_weight_5 rfl (lv_at hl 2 rfl) ?_
  have hp : xPerm (wX k b ag as ap aq aa ab M N C Gr Pr Pa I Ln Sz dr pR pP pL pN qR qP qL qN aR aP aL aN bR bP bL bN) ((wG k ag M N C Gr Pr Pa) ++ ([((b 0, .inr (4, [.ref (ag 0), .ref (b 1), .ref (b 2), .ref (aa 0), .ref (ab 0), .ref (b 3)])) : Nat × va_E)] ++ ([((b 1, .inl (k 5, 4, rfs (fun i => as (2 * i)))) : Nat × va_E)] ++ ([((b 2, .inr (3, [.ref (ap 0), .ref (aq 0)])) : Nat × va_E)] ++ ([((b 3, .inl (k 0, 40, .inl dr)) : Nat × va_E)] ++ (wSS k as I Ln Sz ++ (wT k ap pR pP pL pN ++ (wT k aq qR qP qL qN ++ (wT k aa aR aP aL aN ++ wT k ab bR bP bL bN))))))))) := (xPermC fun _ x => by simp only [wX, wW, List.count_append]; omega)
  refine xCallI (w := wG k ag M N C Gr Pr Pa) (r := [((b 0, .inr (4, [.ref (ag 0), .ref (b 1), .ref (b 2), .ref (aa 0), .ref (ab 0), .ref (b 3)])) : Nat × va_E)] ++ ([((b 1, .inl (k 5, 4, rfs (fun i => as (2 * i)))) : Nat × va_E)] ++ ([((b 2, .inr (3, [.ref (ap 0), .ref (aq 0)])) : Nat × va_E)] ++ ([((b 3, .inl (k 0, 40, .inl dr)) : Nat × va_E)] ++ (wSS k as I Ln Sz ++ (wT k ap pR pP pL pN ++ (wT k aq qR qP qL qN ++ (wT k aa aR aP aL aN ++ wT k ab bR bP bL bN)))))))) (va_runV (As := [.int x1, .int x2]) (rest := []) ⟨hx, hb, hml, hown, hts⟩ (c_X0_hasPlace ag M N C Gr Pr Pa x1 x2 hf) (cwV 2 hts gX4_weight_X0_hasPlace rfl rfl rfl (by decide +kernel) ⟨Nat.le_of_ble_eq_true rfl, Nat.le_of_ble_eq_true rfl⟩) (xPreV hG hP hD hp (ci := 0) rfl (i := 0) rfl) rfl rfl hl.1 rfl (lv_room (Nat.le_of_ble_eq_true rfl)) dX4_weight_6 ⟨Nat.zero_le _, Nat.zero_le _⟩) hP hD hS hp (fun _ => wG_adr) (fun r_1 _ H locs hf hP hD hS => ?_)
  have hP : va_P D vwCl (wX k b ag as ap aq aa ab M N C Gr Pr Pa I Ln Sz dr pR pP pL pN qR qP qL qN aR aP aL aN bR bP bL bN) H := xP_perm (xPermC fun _ x => by simp only [wX, wW, List.count_append]; omega) hP
  have hD : va_D A (wX k b ag as ap aq aa ab M N C Gr Pr Pa I Ln Sz dr pR pP pL pN qR qP qL qN aR aP aL aN bR bP bL bN) := xD_perm (xPermC fun _ x => by simp only [wX, wW, List.count_append]; omega) hD
  refine lv_if_eq (tgt := 20) hx hb dX4_weight_9 (by decide) (fun c_2 => ?_) (fun c_2 => ?_)
  · have hf := hf.1 c_2
    refine lv_iconst (v := (-1)) hx hb dX4_weight_20 (by decide) ?_
    exact W.iret (v := (-1)) hx hb hr (fun t ht hW => ⟨⟨((-1) : Int32), C, rfl, hf, xHp ht hP⟩, hS.F ht⟩) hS.2.2 dX4_weight_21 hlocks
  · have hf := hf.2 c_2
    refine lv_iload_n hx hb dX4_weight_12 rfl (lv_at hl 3 rfl) ?_
    refine lv_i2l (v := x3.toInt64) hx hb dX4_weight_13 rfl ?_
    have hp : xPerm (wX k b ag as ap aq aa ab M N C Gr Pr Pa I Ln Sz dr pR pP pL pN qR qP qL qN aR aP aL aN bR bP bL bN) (([]) ++ (wX k b ag as ap aq aa ab M N C Gr Pr Pa I Ln Sz dr pR pP pL pN qR qP qL qN aR aP aL aN bR bP bL bN)) := (List.Perm.refl _)
    refine xCallI (w := []) (r := wX k b ag as ap aq aa ab M N C Gr Pr Pa I Ln Sz dr pR pP pL pN qR qP qL qN aR aP aL aN bR bP bL bN) (va_runS (As := [.long (x3.toInt64)]) (rest := []) ⟨hx, hb, hml, hown, hts⟩ (c_X4_isWeight (x3.toInt64) hf) (va_cwS 1 hts gX4_weight_X4_isWeight rfl rfl rfl (by decide +kernel) ⟨Nat.le_of_ble_eq_true rfl, Nat.le_of_ble_eq_true rfl⟩) (xPreS hG hP hD hp) rfl rfl hl.1 rfl (lv_room (Nat.le_of_ble_eq_true rfl)) dX4_weight_14 ⟨Nat.zero_le _, Nat.zero_le _⟩) hP hD hS hp (fun _ => rfl) (fun r_3 _ H locs hf hP hD hS => ?_)
    have hP : va_P D vwCl (wX k b ag as ap aq aa ab M N C Gr Pr Pa I Ln Sz dr pR pP pL pN qR qP qL qN aR aP aL aN bR bP bL bN) H := hP
    have hD : va_D A (wX k b ag as ap aq aa ab M N C Gr Pr Pa I Ln Sz dr pR pP pL pN qR qP qL qN aR aP aL aN bR bP bL bN) := hD
    refine lv_if_ne (tgt := 22) hx hb dX4_weight_17 (by decide) (fun c_4 => ?_) (fun c_4 => ?_)
    · have hf := hf.2 c_4
      refine lv_aload_n hx hb dX4_weight_22 rfl (lv_at hl 0 rfl) ?_
      refine va_get (D := D) (ci := 4) (C := RX4) (T := TX4) (N := 6) hx hb hts in_X4_weight_X4 hown hG.1 hP 0 rfl rfl 0 (by decide) (hts _ lk_X4_weight_10) (fun _ h9 => h9) rfl dX4_weight_23 ?_
      refine lv_iload_n hx hb dX4_weight_26 rfl (lv_at hl 1 rfl) ?_
      refine lv_iload_n hx hb dX4_weight_27 rfl (lv_at hl 2 rfl) ?_
      refine lv_iload_n hx hb dX4_weight_28 rfl (lv_at hl 3 rfl) ?_
      have hp : xPerm (wX k b ag as ap aq aa ab M N C Gr Pr Pa I Ln Sz dr pR pP pL pN qR qP qL qN aR aP aL aN bR bP bL bN) ((wG k ag M N C Gr Pr Pa) ++ ([((b 0, .inr (4, [.ref (ag 0), .ref (b 1), .ref (b 2), .ref (aa 0), .ref (ab 0), .ref (b 3)])) : Nat × va_E)] ++ ([((b 1, .inl (k 5, 4, rfs (fun i => as (2 * i)))) : Nat × va_E)] ++ ([((b 2, .inr (3, [.ref (ap 0), .ref (aq 0)])) : Nat × va_E)] ++ ([((b 3, .inl (k 0, 40, .inl dr)) : Nat × va_E)] ++ (wSS k as I Ln Sz ++ (wT k ap pR pP pL pN ++ (wT k aq qR qP qL qN ++ (wT k aa aR aP aL aN ++ wT k ab bR bP bL bN))))))))) := (xPermC fun _ x => by simp only [wX, wW, List.count_append]; omega)
      refine xCallI (w := wG k ag M N C Gr Pr Pa) (r := [((b 0, .inr (4, [.ref (ag 0), .ref (b 1), .ref (b 2), .ref (aa 0), .ref (ab 0), .ref (b 3)])) : Nat × va_E)] ++ ([((b 1, .inl (k 5, 4, rfs (fun i => as (2 * i)))) : Nat × va_E)] ++ ([((b 2, .inr (3, [.ref (ap 0), .ref (aq 0)])) : Nat × va_E)] ++ ([((b 3, .inl (k 0, 40, .inl dr)) : Nat × va_E)] ++ (wSS k as I Ln Sz ++ (wT k ap pR pP pL pN ++ (wT k aq qR qP qL qN ++ (wT k aa aR aP aL aN ++ wT k ab bR bP bL bN)))))))) (va_runV (As := [.int x1, .int x2, .int x3]) (rest := []) ⟨hx, hb, hml, hown, hts⟩ (c_X0_exchange ag M N C Gr Pr Pa x1 x2 x3 hf) (cwV 3 hts gX4_weight_X0_exchange rfl rfl rfl (by decide +kernel) ⟨Nat.le_of_ble_eq_true rfl, Nat.le_of_ble_eq_true rfl⟩) (xPreV hG hP hD hp (ci := 0) rfl (i := 0) rfl) rfl rfl hl.1 rfl (lv_room (Nat.le_of_ble_eq_true rfl)) dX4_weight_29 ⟨Nat.zero_le _, Nat.zero_le _⟩) hP hD hS hp (fun _ => wG_adr) (fun r_6 C_5 H locs hf hP hD hS => ?_)
      have hP : va_P D vwCl (wX k b ag as ap aq aa ab M N C_5 Gr Pr Pa I Ln Sz dr pR pP pL pN qR qP qL qN aR aP aL aN bR bP bL bN) H := xP_perm (xPermC fun _ x => by simp only [wX, wW, List.count_append]; omega) hP
      have hD : va_D A (wX k b ag as ap aq aa ab M N C_5 Gr Pr Pa I Ln Sz dr pR pP pL pN qR qP qL qN aR aP aL aN bR bP bL bN) := xD_perm (xPermC fun _ x => by simp only [wX, wW, List.count_append]; omega) hD
      exact W.iret (v := r_6) hx hb hr (fun t ht hW => ⟨⟨r_6, C_5, rfl, hf, xHp ht hP⟩, hS.F ht⟩) hS.2.2 dX4_weight_32 hlocks
    · have hf := hf.1 c_4
      refine lv_iconst (v := (-1)) hx hb dX4_weight_20 (by decide) ?_
      exact W.iret (v := (-1)) hx hb hr (fun t ht hW => ⟨⟨((-1) : Int32), C, rfl, hf, xHp ht hP⟩, hS.F ht⟩) hS.2.2 dX4_weight_21 hlocks

def p_X4_isSheet (x0 : Int32) (post : Int32 → Prop) : Prop := p_X4_isWithin x0 0 3 (fun r_1 => (narrow .boolean (.int r_1) = .int r_1 ∧ post r_1))
set_option maxHeartbeats 4000000 in
set_option maxRecDepth 100000 in
theorem c_X4_isSheet {l : Launch} {D : va_G} {k : Nat → ClassId} (x0 : Int32) {post : Int32 → Prop} (hf : p_X4_isSheet x0 post) : ctI l yX4_isSheet wsX4_isSheet ({ frames := 1, cells := 0, slots := 0, locals := 22 }) D k [.int x0] ([]) (fun u : Unit => []) (fun (r : Int32) (u : Unit) => post r) := by
  refine Met.ofW (cc := cX4_isSheet) (maxL := 1) (ret := (some .boolean)) (by decide) rfl ?_
  intro p e s m args below meth c s₁ B hml hv
  obtain ⟨rfl, hP, hG, hD0⟩ := hv
  have C0 : xM p s m ([.int x0] : List Value).toArray meth c cX4_isSheet 1 RX4 (some .boolean) wsX4_isSheet := ⟨B.exec, B.bytes, B.returns, atoms_spec (ws := wsX4_isSheet) B.pre, findClass_of_methodNamed B.named, B.notSynchronized, hml⟩
  obtain ⟨hx, hb, hr, hts, hown, hlocks, hml⟩ := id C0
  have hD := xSelf hD0
  have hS : va_S (xIn ([])) s.heap s.heap [] := va_S.rf
  generalize xIn ([]) = A at hD hS ⊢
  have hl := lv_entry ([.int x0]) (n := 1) (Nat.le_of_ble_eq_true rfl)
  rw [lg_entry_eq]
  generalize (lg_sl ([.int x0]) ++ List.replicate (1 - (lg_sl ([.int x0])).length) Slot.unset).toArray = ls at hl ⊢
  have hl : lv_has ls 1 [(0, .int x0)] := hl
  unfold p_X4_isSheet at hf
  refine lv_iload_n hx hb dX4_isSheet_0 rfl (lv_at hl 0 rfl) ?_
  refine lv_iconst (v := 0) hx hb dX4_isSheet_1 (by decide) ?_
  refine lv_iconst (v := 3) hx hb dX4_isSheet_2 (by decide) ?_
  have hp : xPerm ([]) (([]) ++ ([])) := (List.Perm.refl _)
  refine xCallI (w := []) (r := []) (va_runS (As := [.int x0, .int 0, .int 3]) (rest := []) ⟨hx, hb, hml, hown, hts⟩ (c_X4_isWithin x0 0 3 hf) (va_cwS 3 hts gX4_isSheet_X4_isWithin rfl rfl rfl (by decide +kernel) ⟨Nat.le_of_ble_eq_true rfl, Nat.le_of_ble_eq_true rfl⟩) (xPreS hG hP hD hp) rfl rfl hl.1 rfl (lv_room (Nat.le_of_ble_eq_true rfl)) dX4_isSheet_3 ⟨Nat.zero_le _, Nat.zero_le _⟩) hP hD hS hp (fun _ => rfl) (fun r_1 _ H locs hf hP hD hS => ?_)
  have hP : va_P D vwCl ([]) H := hP
  have hD : va_D A ([]) := hD
  obtain ⟨h_2, hf⟩ := hf
  exact W.zret (v := r_1) hx hb hr h_2 (fun t ht hW => ⟨⟨r_1, (), rfl, hf, xHp ht hP⟩, hS.F ht⟩) hS.2.2 dX4_isSheet_6 hlocks

def p_X4_isLane (x0 : Int32) (post : Int32 → Prop) : Prop := p_X4_isWithin x0 0 1 (fun r_1 => (narrow .boolean (.int r_1) = .int r_1 ∧ post r_1))
set_option maxHeartbeats 4000000 in
set_option maxRecDepth 100000 in
theorem c_X4_isLane {l : Launch} {D : va_G} {k : Nat → ClassId} (x0 : Int32) {post : Int32 → Prop} (hf : p_X4_isLane x0 post) : ctI l yX4_isLane wsX4_isLane ({ frames := 1, cells := 0, slots := 0, locals := 22 }) D k [.int x0] ([]) (fun u : Unit => []) (fun (r : Int32) (u : Unit) => post r) := by
  refine Met.ofW (cc := cX4_isLane) (maxL := 1) (ret := (some .boolean)) (by decide) rfl ?_
  intro p e s m args below meth c s₁ B hml hv
  obtain ⟨rfl, hP, hG, hD0⟩ := hv
  have C0 : xM p s m ([.int x0] : List Value).toArray meth c cX4_isLane 1 RX4 (some .boolean) wsX4_isLane := ⟨B.exec, B.bytes, B.returns, atoms_spec (ws := wsX4_isLane) B.pre, findClass_of_methodNamed B.named, B.notSynchronized, hml⟩
  obtain ⟨hx, hb, hr, hts, hown, hlocks, hml⟩ := id C0
  have hD := xSelf hD0
  have hS : va_S (xIn ([])) s.heap s.heap [] := va_S.rf
  generalize xIn ([]) = A at hD hS ⊢
  have hl := lv_entry ([.int x0]) (n := 1) (Nat.le_of_ble_eq_true rfl)
  rw [lg_entry_eq]
  generalize (lg_sl ([.int x0]) ++ List.replicate (1 - (lg_sl ([.int x0])).length) Slot.unset).toArray = ls at hl ⊢
  have hl : lv_has ls 1 [(0, .int x0)] := hl
  unfold p_X4_isLane at hf
  refine lv_iload_n hx hb dX4_isLane_0 rfl (lv_at hl 0 rfl) ?_
  refine lv_iconst (v := 0) hx hb dX4_isLane_1 (by decide) ?_
  refine lv_iconst (v := 1) hx hb dX4_isLane_2 (by decide) ?_
  have hp : xPerm ([]) (([]) ++ ([])) := (List.Perm.refl _)
  refine xCallI (w := []) (r := []) (va_runS (As := [.int x0, .int 0, .int 1]) (rest := []) ⟨hx, hb, hml, hown, hts⟩ (c_X4_isWithin x0 0 1 hf) (va_cwS 3 hts gX4_isLane_X4_isWithin rfl rfl rfl (by decide +kernel) ⟨Nat.le_of_ble_eq_true rfl, Nat.le_of_ble_eq_true rfl⟩) (xPreS hG hP hD hp) rfl rfl hl.1 rfl (lv_room (Nat.le_of_ble_eq_true rfl)) dX4_isLane_3 ⟨Nat.zero_le _, Nat.zero_le _⟩) hP hD hS hp (fun _ => rfl) (fun r_1 _ H locs hf hP hD hS => ?_)
  have hP : va_P D vwCl ([]) H := hP
  have hD : va_D A ([]) := hD
  obtain ⟨h_2, hf⟩ := hf
  exact W.zret (v := r_1) hx hb hr h_2 (fun t ht hW => ⟨⟨r_1, (), rfl, hf, xHp ht hP⟩, hS.F ht⟩) hS.2.2 dX4_isLane_6 hlocks

def p_X4_sheet (I : Nat → Nat → Int64) (Ln : Nat → Int32) (Sz : Nat → Int32) (x1 : Int32) (x2 : Int32) (x3 : Int32) (post : Int32 → (Nat → Nat → Int64) → (Nat → Int32) → (Nat → Int32) → Prop) : Prop := p_X4_isSheet x1 (fun r_1 => ((r_1 = 0 → post (-1) I Ln Sz) ∧ (¬ r_1 = 0 → p_X4_isLane x2 (fun r_3 => ((r_3 = 0 → post (-1) I Ln Sz) ∧ (¬ r_3 = 0 → ((x3 ≤ 36 → ((0 ≤ x3 → (vp_in x1 4 ∧ p_X1_renew (I (x1.toNatClampNeg)) (Ln (x1.toNatClampNeg)) (Sz (x1.toNatClampNeg)) x2 x3 (fun I_8 Ln_9 Sz_10 => post x3 (va_up I (x1.toNatClampNeg) I_8) (va_up Ln (x1.toNatClampNeg) Ln_9) (va_up Sz (x1.toNatClampNeg) Sz_10)))) ∧ (¬ 0 ≤ x3 → post (-14) I Ln Sz))) ∧ (¬ x3 ≤ 36 → post (-1) I Ln Sz))))))))
theorem in_X4_sheet_X4 : ∀ w ∈ u_ws RX4 TX4 6, w ∈ wsX4_sheet := by decide +kernel
theorem lk_X4_sheet_18 : Cond.fieldLink RX4 18 "GrowingCorners" "sheets" "[LGrowingCorners$Sheet;" ∈ wsX4_sheet := by decide +kernel
set_option maxHeartbeats 4000000 in
set_option maxRecDepth 100000 in
theorem c_X4_sheet {l : Launch} {D : va_G} {k : Nat → ClassId} (b : Nat → Nat) (ag : Nat → Nat) (as : Nat → Nat) (ap : Nat → Nat) (aq : Nat → Nat) (aa : Nat → Nat) (ab : Nat → Nat) (M : Int32) (N : Int32) (C : Nat → Nat → Int32) (Gr : Nat → Nat → Int32) (Pr : Nat → Nat → Int64) (Pa : Nat → Nat → Int32) (I : Nat → Nat → Int64) (Ln : Nat → Int32) (Sz : Nat → Int32) (dr : Nat → Int32) (pR : Int32) (pP : Int32) (pL : Nat → Int32) (pN : Nat → Nat → Int32) (qR : Int32) (qP : Int32) (qL : Nat → Int32) (qN : Nat → Nat → Int32) (aR : Int32) (aP : Int32) (aL : Nat → Int32) (aN : Nat → Nat → Int32) (bR : Int32) (bP : Int32) (bL : Nat → Int32) (bN : Nat → Nat → Int32) (x1 : Int32) (x2 : Int32) (x3 : Int32) {post : Int32 → (Nat → Nat → Int64) → (Nat → Int32) → (Nat → Int32) → Prop} (hf : p_X4_sheet I Ln Sz x1 x2 x3 post) : ctI l yX4_sheet wsX4_sheet ({ frames := 2, cells := 0, slots := 0, locals := 46 }) D k [.ref (b 0), .int x1, .int x2, .int x3] (wX k b ag as ap aq aa ab M N C Gr Pr Pa I Ln Sz dr pR pP pL pN qR qP qL qN aR aP aL aN bR bP bL bN) (fun u : (Nat → Nat → Int64) × (Nat → Int32) × (Nat → Int32) => wX k b ag as ap aq aa ab M N C Gr Pr Pa (u.1) (u.2.1) (u.2.2) dr pR pP pL pN qR qP qL qN aR aP aL aN bR bP bL bN) (fun (r : Int32) (u : (Nat → Nat → Int64) × (Nat → Int32) × (Nat → Int32)) => post r u.1 u.2.1 u.2.2) := by
  refine Met.ofW (cc := cX4_sheet) (maxL := 4) (ret := (some .int)) (by decide) rfl ?_
  intro p e s m args below meth c s₁ B hml hv
  obtain ⟨rfl, hP, hG, hD0⟩ := hv
  have C0 : xM p s m ([.ref (b 0), .int x1, .int x2, .int x3] : List Value).toArray meth c cX4_sheet 4 RX4 (some .int) wsX4_sheet := ⟨B.exec, B.bytes, B.returns, atoms_spec (ws := wsX4_sheet) B.pre, findClass_of_methodNamed B.named, B.notSynchronized, hml⟩
  obtain ⟨hx, hb, hr, hts, hown, hlocks, hml⟩ := id C0
  have hD := xSelf hD0
  have hS : va_S (xIn (wX k b ag as ap aq aa ab M N C Gr Pr Pa I Ln Sz dr pR pP pL pN qR qP qL qN aR aP aL aN bR bP bL bN)) s.heap s.heap [] := va_S.rf
  generalize xIn (wX k b ag as ap aq aa ab M N C Gr Pr Pa I Ln Sz dr pR pP pL pN qR qP qL qN aR aP aL aN bR bP bL bN) = A at hD hS ⊢
  have hl := lv_entry ([.ref (b 0), .int x1, .int x2, .int x3]) (n := 4) (Nat.le_of_ble_eq_true rfl)
  rw [lg_entry_eq]
  generalize (lg_sl ([.ref (b 0), .int x1, .int x2, .int x3]) ++ List.replicate (4 - (lg_sl ([.ref (b 0), .int x1, .int x2, .int x3])).length) Slot.unset).toArray = ls at hl ⊢
  have hl : lv_has ls 4 [(0, .ref (b 0)), (1, .int x1), (2, .int x2), (3, .int x3)] := hl
  unfold p_X4_sheet at hf
  refine lv_iload_n hx hb dX4_sheet_0 rfl (lv_at hl 1 rfl) ?_
  have hp : xPerm (wX k b ag as ap aq aa ab M N C Gr Pr Pa I Ln Sz dr pR pP pL pN qR qP qL qN aR aP aL aN bR bP bL bN) (([]) ++ (wX k b ag as ap aq aa ab M N C Gr Pr Pa I Ln Sz dr pR pP pL pN qR qP qL qN aR aP aL aN bR bP bL bN)) := (List.Perm.refl _)
  refine xCallI (w := []) (r := wX k b ag as ap aq aa ab M N C Gr Pr Pa I Ln Sz dr pR pP pL pN qR qP qL qN aR aP aL aN bR bP bL bN) (va_runS (As := [.int x1]) (rest := []) ⟨hx, hb, hml, hown, hts⟩ (c_X4_isSheet x1 hf) (va_cwS 1 hts gX4_sheet_X4_isSheet rfl rfl rfl (by decide +kernel) ⟨Nat.le_of_ble_eq_true rfl, Nat.le_of_ble_eq_true rfl⟩) (xPreS hG hP hD hp) rfl rfl hl.1 rfl (lv_room (Nat.le_of_ble_eq_true rfl)) dX4_sheet_1 ⟨Nat.zero_le _, Nat.zero_le _⟩) hP hD hS hp (fun _ => rfl) (fun r_1 _ H locs hf hP hD hS => ?_)
  have hP : va_P D vwCl (wX k b ag as ap aq aa ab M N C Gr Pr Pa I Ln Sz dr pR pP pL pN qR qP qL qN aR aP aL aN bR bP bL bN) H := hP
  have hD : va_D A (wX k b ag as ap aq aa ab M N C Gr Pr Pa I Ln Sz dr pR pP pL pN qR qP qL qN aR aP aL aN bR bP bL bN) := hD
  refine lv_if_eq (tgt := 20) hx hb dX4_sheet_4 (by decide) (fun c_2 => ?_) (fun c_2 => ?_)
  · have hf := hf.1 c_2
    refine lv_iconst (v := (-1)) hx hb dX4_sheet_20 (by decide) ?_
    exact W.iret (v := (-1)) hx hb hr (fun t ht hW => ⟨⟨((-1) : Int32), (I, Ln, Sz), rfl, hf, xHp ht hP⟩, hS.F ht⟩) hS.2.2 dX4_sheet_21 hlocks
  · have hf := hf.2 c_2
    refine lv_iload_n hx hb dX4_sheet_7 rfl (lv_at hl 2 rfl) ?_
    have hp : xPerm (wX k b ag as ap aq aa ab M N C Gr Pr Pa I Ln Sz dr pR pP pL pN qR qP qL qN aR aP aL aN bR bP bL bN) (([]) ++ (wX k b ag as ap aq aa ab M N C Gr Pr Pa I Ln Sz dr pR pP pL pN qR qP qL qN aR aP aL aN bR bP bL bN)) := (List.Perm.refl _)
    refine xCallI (w := []) (r := wX k b ag as ap aq aa ab M N C Gr Pr Pa I Ln Sz dr pR pP pL pN qR qP qL qN aR aP aL aN bR bP bL bN) (va_runS (As := [.int x2]) (rest := []) ⟨hx, hb, hml, hown, hts⟩ (c_X4_isLane x2 hf) (va_cwS 1 hts gX4_sheet_X4_isLane rfl rfl rfl (by decide +kernel) ⟨Nat.le_of_ble_eq_true rfl, Nat.le_of_ble_eq_true rfl⟩) (xPreS hG hP hD hp) rfl rfl hl.1 rfl (lv_room (Nat.le_of_ble_eq_true rfl)) dX4_sheet_8 ⟨Nat.zero_le _, Nat.zero_le _⟩) hP hD hS hp (fun _ => rfl) (fun r_3 _ H locs hf hP hD hS => ?_)
    have hP : va_P D vwCl (wX k b ag as ap aq aa ab M N C Gr Pr Pa I Ln Sz dr pR pP pL pN qR qP qL qN aR aP aL aN bR bP bL bN) H := hP
    have hD : va_D A (wX k b ag as ap aq aa ab M N C Gr Pr Pa I Ln Sz dr pR pP pL pN qR qP qL qN aR aP aL aN bR bP bL bN) := hD
    refine lv_if_eq (tgt := 20) hx hb dX4_sheet_11 (by decide) (fun c_4 => ?_) (fun c_4 => ?_)
    · have hf := hf.1 c_4
      refine lv_iconst (v := (-1)) hx hb dX4_sheet_20 (by decide) ?_
      exact W.iret (v := (-1)) hx hb hr (fun t ht hW => ⟨⟨((-1) : Int32), (I, Ln, Sz), rfl, hf, xHp ht hP⟩, hS.F ht⟩) hS.2.2 dX4_sheet_21 hlocks
    · have hf := hf.2 c_4
      refine lv_iload_n hx hb dX4_sheet_14 rfl (lv_at hl 3 rfl) ?_
      refine lv_bipush (v := 36) hx hb dX4_sheet_15 (by decide) ?_
      refine lv_icmp_le (tgt := 22) hx hb dX4_sheet_17 (by decide) (fun c_5 => ?_) (fun c_5 => ?_)
      · have hf := hf.1 c_5
        refine lv_iload_n hx hb dX4_sheet_22 rfl (lv_at hl 3 rfl) ?_
        refine lv_if_ge (tgt := 29) hx hb dX4_sheet_23 (by decide) (fun c_6 => ?_) (fun c_6 => ?_)
        · have hf := hf.1 c_6
          refine lv_aload_n hx hb dX4_sheet_29 rfl (lv_at hl 0 rfl) ?_
          refine va_get (D := D) (ci := 4) (C := RX4) (T := TX4) (N := 6) hx hb hts in_X4_sheet_X4 hown hG.1 hP 0 rfl rfl 1 (by decide) (hts _ lk_X4_sheet_18) (fun _ h9 => h9) rfl dX4_sheet_30 ?_
          refine lv_iload_n hx hb dX4_sheet_33 rfl (lv_at hl 1 rfl) ?_
          obtain ⟨h_7, hf⟩ := hf
          refine xAaldO (f := fun i => as (2 * i)) hx hb hG.1 hP 1 5 rfl rfl h_7 dX4_sheet_34 ?_
          refine lv_iload_n hx hb dX4_sheet_35 rfl (lv_at hl 2 rfl) ?_
          refine lv_iload_n hx hb dX4_sheet_36 rfl (lv_at hl 3 rfl) ?_
          have hp : xPerm (wX k b ag as ap aq aa ab M N C Gr Pr Pa I Ln Sz dr pR pP pL pN qR qP qL qN aR aP aL aN bR bP bL bN) ((wS k (fun j => as (2 * x1.toNatClampNeg + j)) (I (x1.toNatClampNeg)) (Ln (x1.toNatClampNeg)) (Sz (x1.toNatClampNeg))) ++ (wSr k as I Ln Sz (x1.toNatClampNeg) ++ ([((b 0, .inr (4, [.ref (ag 0), .ref (b 1), .ref (b 2), .ref (aa 0), .ref (ab 0), .ref (b 3)])) : Nat × va_E)] ++ ([((b 1, .inl (k 5, 4, rfs (fun i => as (2 * i)))) : Nat × va_E)] ++ ([((b 2, .inr (3, [.ref (ap 0), .ref (aq 0)])) : Nat × va_E)] ++ ([((b 3, .inl (k 0, 40, .inl dr)) : Nat × va_E)] ++ (wG k ag M N C Gr Pr Pa ++ (wT k ap pR pP pL pN ++ (wT k aq qR qP qL qN ++ (wT k aa aR aP aL aN ++ wT k ab bR bP bL bN)))))))))) := (xPermC fun _ x => by have h9 := (wSS_cut (k := k) (a := as) (I := I) (Ln := Ln) (Sz := Sz) (vp_lt h_7)).count_eq x; simp only [wX, wW, List.count_append] at h9 ⊢; omega)
          refine xCallV (w := wS k (fun j => as (2 * x1.toNatClampNeg + j)) (I (x1.toNatClampNeg)) (Ln (x1.toNatClampNeg)) (Sz (x1.toNatClampNeg))) (r := wSr k as I Ln Sz (x1.toNatClampNeg) ++ ([((b 0, .inr (4, [.ref (ag 0), .ref (b 1), .ref (b 2), .ref (aa 0), .ref (ab 0), .ref (b 3)])) : Nat × va_E)] ++ ([((b 1, .inl (k 5, 4, rfs (fun i => as (2 * i)))) : Nat × va_E)] ++ ([((b 2, .inr (3, [.ref (ap 0), .ref (aq 0)])) : Nat × va_E)] ++ ([((b 3, .inl (k 0, 40, .inl dr)) : Nat × va_E)] ++ (wG k ag M N C Gr Pr Pa ++ (wT k ap pR pP pL pN ++ (wT k aq qR qP qL qN ++ (wT k aa aR aP aL aN ++ wT k ab bR bP bL bN))))))))) (va_runV (As := [.int x2, .int x3]) (rest := []) ⟨hx, hb, hml, hown, hts⟩ (c_X1_renew (fun j => as (2 * x1.toNatClampNeg + j)) (I (x1.toNatClampNeg)) (Ln (x1.toNatClampNeg)) (Sz (x1.toNatClampNeg)) x2 x3 hf) (cwV 2 hts gX4_sheet_X1_renew rfl rfl rfl (by decide +kernel) ⟨Nat.le_of_ble_eq_true rfl, Nat.le_of_ble_eq_true rfl⟩) (xPreV hG hP hD hp (ci := 1) rfl (i := 0) rfl) rfl rfl hl.1 rfl (lv_room (Nat.le_of_ble_eq_true rfl)) dX4_sheet_37 ⟨Nat.zero_le _, Nat.zero_le _⟩) hP hD hS hp (fun _ => rfl) (fun u H locs hf hP hD hS => ?_)
          obtain ⟨I_8, Ln_9, Sz_10⟩ := u
          have hP : va_P D vwCl (wX k b ag as ap aq aa ab M N C Gr Pr Pa (va_up I (x1.toNatClampNeg) I_8) (va_up Ln (x1.toNatClampNeg) Ln_9) (va_up Sz (x1.toNatClampNeg) Sz_10) dr pR pP pL pN qR qP qL qN aR aP aL aN bR bP bL bN) H := xP_perm (xPermC fun _ x => by have h9 := (wSS_put (k := k) (a := as) (I := I) (Ln := Ln) (Sz := Sz) (I2 := (va_up I (x1.toNatClampNeg) I_8)) (Ln2 := (va_up Ln (x1.toNatClampNeg) Ln_9)) (Sz2 := (va_up Sz (x1.toNatClampNeg) Sz_10)) (Iv := I_8) (Lv := Ln_9) (Sv := Sz_10) (vp_lt h_7) (by simp [va_up]) (fun j h => by simp [va_up, h]) (by simp [va_up]) (fun j h => by simp [va_up, h]) (by simp [va_up]) (fun j h => by simp [va_up, h])).count_eq x; simp only [wX, wW, List.count_append] at h9 ⊢; omega) hP
          have hD : va_D A (wX k b ag as ap aq aa ab M N C Gr Pr Pa (va_up I (x1.toNatClampNeg) I_8) (va_up Ln (x1.toNatClampNeg) Ln_9) (va_up Sz (x1.toNatClampNeg) Sz_10) dr pR pP pL pN qR qP qL qN aR aP aL aN bR bP bL bN) := xD_perm (xPermC fun _ x => by have h9 := (wSS_put (k := k) (a := as) (I := I) (Ln := Ln) (Sz := Sz) (I2 := (va_up I (x1.toNatClampNeg) I_8)) (Ln2 := (va_up Ln (x1.toNatClampNeg) Ln_9)) (Sz2 := (va_up Sz (x1.toNatClampNeg) Sz_10)) (Iv := I_8) (Lv := Ln_9) (Sv := Sz_10) (vp_lt h_7) (by simp [va_up]) (fun j h => by simp [va_up, h]) (by simp [va_up]) (fun j h => by simp [va_up, h]) (by simp [va_up]) (fun j h => by simp [va_up, h])).count_eq x; simp only [wX, wW, List.count_append] at h9 ⊢; omega) hD
          refine lv_iload_n hx hb dX4_sheet_40 rfl (lv_at hl 3 rfl) ?_
          exact W.iret (v := x3) hx hb hr (fun t ht hW => ⟨⟨x3, ((va_up I (x1.toNatClampNeg) I_8), (va_up Ln (x1.toNatClampNeg) Ln_9), (va_up Sz (x1.toNatClampNeg) Sz_10)), rfl, hf, xHp ht hP⟩, hS.F ht⟩) hS.2.2 dX4_sheet_41 hlocks
        · have hf := hf.2 c_6
          refine lv_bipush (v := (-14)) hx hb dX4_sheet_26 (by decide) ?_
          exact W.iret (v := (-14)) hx hb hr (fun t ht hW => ⟨⟨((-14) : Int32), (I, Ln, Sz), rfl, hf, xHp ht hP⟩, hS.F ht⟩) hS.2.2 dX4_sheet_28 hlocks
      · have hf := hf.2 c_5
        refine lv_iconst (v := (-1)) hx hb dX4_sheet_20 (by decide) ?_
        exact W.iret (v := (-1)) hx hb hr (fun t ht hW => ⟨⟨((-1) : Int32), (I, Ln, Sz), rfl, hf, xHp ht hP⟩, hS.F ht⟩) hS.2.2 dX4_sheet_21 hlocks

def p_X4_drop (Ln : Nat → Int32) (Sz : Nat → Int32) (x1 : Int32) (post : Int32 → (Nat → Int32) → (Nat → Int32) → Prop) : Prop := p_X4_isSheet x1 (fun r_1 => ((r_1 = 0 → post (-1) Ln Sz) ∧ (¬ r_1 = 0 → (vp_in x1 4 ∧ p_X1_isMissing (Ln (x1.toNatClampNeg)) (fun r_4 => ((r_4 = 0 → (vp_in x1 4 ∧ p_X1_vanish (Ln (x1.toNatClampNeg)) (Sz (x1.toNatClampNeg)) (fun r_9 Ln_7 Sz_8 => post r_9 (va_up Ln (x1.toNatClampNeg) Ln_7) (va_up Sz (x1.toNatClampNeg) Sz_8)))) ∧ (¬ r_4 = 0 → post (-11) Ln Sz)))))))
theorem in_X4_drop_X4 : ∀ w ∈ u_ws RX4 TX4 6, w ∈ wsX4_drop := by decide +kernel
theorem lk_X4_drop_18 : Cond.fieldLink RX4 18 "GrowingCorners" "sheets" "[LGrowingCorners$Sheet;" ∈ wsX4_drop := by decide +kernel
set_option maxHeartbeats 4000000 in
set_option maxRecDepth 100000 in
theorem c_X4_drop {l : Launch} {D : va_G} {k : Nat → ClassId} (b : Nat → Nat) (ag : Nat → Nat) (as : Nat → Nat) (ap : Nat → Nat) (aq : Nat → Nat) (aa : Nat → Nat) (ab : Nat → Nat) (M : Int32) (N : Int32) (C : Nat → Nat → Int32) (Gr : Nat → Nat → Int32) (Pr : Nat → Nat → Int64) (Pa : Nat → Nat → Int32) (I : Nat → Nat → Int64) (Ln : Nat → Int32) (Sz : Nat → Int32) (dr : Nat → Int32) (pR : Int32) (pP : Int32) (pL : Nat → Int32) (pN : Nat → Nat → Int32) (qR : Int32) (qP : Int32) (qL : Nat → Int32) (qN : Nat → Nat → Int32) (aR : Int32) (aP : Int32) (aL : Nat → Int32) (aN : Nat → Nat → Int32) (bR : Int32) (bP : Int32) (bL : Nat → Int32) (bN : Nat → Nat → Int32) (x1 : Int32) {post : Int32 → (Nat → Int32) → (Nat → Int32) → Prop} (hf : p_X4_drop Ln Sz x1 post) : ctI l yX4_drop wsX4_drop ({ frames := 2, cells := 0, slots := 0, locals := 42 }) D k [.ref (b 0), .int x1] (wX k b ag as ap aq aa ab M N C Gr Pr Pa I Ln Sz dr pR pP pL pN qR qP qL qN aR aP aL aN bR bP bL bN) (fun u : (Nat → Int32) × (Nat → Int32) => wX k b ag as ap aq aa ab M N C Gr Pr Pa I (u.1) (u.2) dr pR pP pL pN qR qP qL qN aR aP aL aN bR bP bL bN) (fun (r : Int32) (u : (Nat → Int32) × (Nat → Int32)) => post r u.1 u.2) := by
  refine Met.ofW (cc := cX4_drop) (maxL := 2) (ret := (some .int)) (by decide) rfl ?_
  intro p e s m args below meth c s₁ B hml hv
  obtain ⟨rfl, hP, hG, hD0⟩ := hv
  have C0 : xM p s m ([.ref (b 0), .int x1] : List Value).toArray meth c cX4_drop 2 RX4 (some .int) wsX4_drop := ⟨B.exec, B.bytes, B.returns, atoms_spec (ws := wsX4_drop) B.pre, findClass_of_methodNamed B.named, B.notSynchronized, hml⟩
  obtain ⟨hx, hb, hr, hts, hown, hlocks, hml⟩ := id C0
  have hD := xSelf hD0
  have hS : va_S (xIn (wX k b ag as ap aq aa ab M N C Gr Pr Pa I Ln Sz dr pR pP pL pN qR qP qL qN aR aP aL aN bR bP bL bN)) s.heap s.heap [] := va_S.rf
  generalize xIn (wX k b ag as ap aq aa ab M N C Gr Pr Pa I Ln Sz dr pR pP pL pN qR qP qL qN aR aP aL aN bR bP bL bN) = A at hD hS ⊢
  have hl := lv_entry ([.ref (b 0), .int x1]) (n := 2) (Nat.le_of_ble_eq_true rfl)
  rw [lg_entry_eq]
  generalize (lg_sl ([.ref (b 0), .int x1]) ++ List.replicate (2 - (lg_sl ([.ref (b 0), .int x1])).length) Slot.unset).toArray = ls at hl ⊢
  have hl : lv_has ls 2 [(0, .ref (b 0)), (1, .int x1)] := hl
  unfold p_X4_drop at hf
  refine lv_iload_n hx hb dX4_drop_0 rfl (lv_at hl 1 rfl) ?_
  have hp : xPerm (wX k b ag as ap aq aa ab M N C Gr Pr Pa I Ln Sz dr pR pP pL pN qR qP qL qN aR aP aL aN bR bP bL bN) (([]) ++ (wX k b ag as ap aq aa ab M N C Gr Pr Pa I Ln Sz dr pR pP pL pN qR qP qL qN aR aP aL aN bR bP bL bN)) := (List.Perm.refl _)
  refine xCallI (w := []) (r := wX k b ag as ap aq aa ab M N C Gr Pr Pa I Ln Sz dr pR pP pL pN qR qP qL qN aR aP aL aN bR bP bL bN) (va_runS (As := [.int x1]) (rest := []) ⟨hx, hb, hml, hown, hts⟩ (c_X4_isSheet x1 hf) (va_cwS 1 hts gX4_drop_X4_isSheet rfl rfl rfl (by decide +kernel) ⟨Nat.le_of_ble_eq_true rfl, Nat.le_of_ble_eq_true rfl⟩) (xPreS hG hP hD hp) rfl rfl hl.1 rfl (lv_room (Nat.le_of_ble_eq_true rfl)) dX4_drop_1 ⟨Nat.zero_le _, Nat.zero_le _⟩) hP hD hS hp (fun _ => rfl) (fun r_1 _ H locs hf hP hD hS => ?_)
  have hP : va_P D vwCl (wX k b ag as ap aq aa ab M N C Gr Pr Pa I Ln Sz dr pR pP pL pN qR qP qL qN aR aP aL aN bR bP bL bN) H := hP
  have hD : va_D A (wX k b ag as ap aq aa ab M N C Gr Pr Pa I Ln Sz dr pR pP pL pN qR qP qL qN aR aP aL aN bR bP bL bN) := hD
  refine lv_if_ne (tgt := 9) hx hb dX4_drop_4 (by decide) (fun c_2 => ?_) (fun c_2 => ?_)
  · have hf := hf.2 c_2
    refine lv_aload_n hx hb dX4_drop_9 rfl (lv_at hl 0 rfl) ?_
    refine va_get (D := D) (ci := 4) (C := RX4) (T := TX4) (N := 6) hx hb hts in_X4_drop_X4 hown hG.1 hP 0 rfl rfl 1 (by decide) (hts _ lk_X4_drop_18) (fun _ h9 => h9) rfl dX4_drop_10 ?_
    refine lv_iload_n hx hb dX4_drop_13 rfl (lv_at hl 1 rfl) ?_
    obtain ⟨h_3, hf⟩ := hf
    refine xAaldO (f := fun i => as (2 * i)) hx hb hG.1 hP 1 5 rfl rfl h_3 dX4_drop_14 ?_
    have hp : xPerm (wX k b ag as ap aq aa ab M N C Gr Pr Pa I Ln Sz dr pR pP pL pN qR qP qL qN aR aP aL aN bR bP bL bN) ((wS k (fun j => as (2 * x1.toNatClampNeg + j)) (I (x1.toNatClampNeg)) (Ln (x1.toNatClampNeg)) (Sz (x1.toNatClampNeg))) ++ (wSr k as I Ln Sz (x1.toNatClampNeg) ++ ([((b 0, .inr (4, [.ref (ag 0), .ref (b 1), .ref (b 2), .ref (aa 0), .ref (ab 0), .ref (b 3)])) : Nat × va_E)] ++ ([((b 1, .inl (k 5, 4, rfs (fun i => as (2 * i)))) : Nat × va_E)] ++ ([((b 2, .inr (3, [.ref (ap 0), .ref (aq 0)])) : Nat × va_E)] ++ ([((b 3, .inl (k 0, 40, .inl dr)) : Nat × va_E)] ++ (wG k ag M N C Gr Pr Pa ++ (wT k ap pR pP pL pN ++ (wT k aq qR qP qL qN ++ (wT k aa aR aP aL aN ++ wT k ab bR bP bL bN)))))))))) := (xPermC fun _ x => by have h9 := (wSS_cut (k := k) (a := as) (I := I) (Ln := Ln) (Sz := Sz) (vp_lt h_3)).count_eq x; simp only [wX, wW, List.count_append] at h9 ⊢; omega)
    refine xCallI (w := wS k (fun j => as (2 * x1.toNatClampNeg + j)) (I (x1.toNatClampNeg)) (Ln (x1.toNatClampNeg)) (Sz (x1.toNatClampNeg))) (r := wSr k as I Ln Sz (x1.toNatClampNeg) ++ ([((b 0, .inr (4, [.ref (ag 0), .ref (b 1), .ref (b 2), .ref (aa 0), .ref (ab 0), .ref (b 3)])) : Nat × va_E)] ++ ([((b 1, .inl (k 5, 4, rfs (fun i => as (2 * i)))) : Nat × va_E)] ++ ([((b 2, .inr (3, [.ref (ap 0), .ref (aq 0)])) : Nat × va_E)] ++ ([((b 3, .inl (k 0, 40, .inl dr)) : Nat × va_E)] ++ (wG k ag M N C Gr Pr Pa ++ (wT k ap pR pP pL pN ++ (wT k aq qR qP qL qN ++ (wT k aa aR aP aL aN ++ wT k ab bR bP bL bN))))))))) (va_runV (As := []) (rest := []) ⟨hx, hb, hml, hown, hts⟩ (c_X1_isMissing (fun j => as (2 * x1.toNatClampNeg + j)) (I (x1.toNatClampNeg)) (Ln (x1.toNatClampNeg)) (Sz (x1.toNatClampNeg)) hf) (cwV 0 hts gX4_drop_X1_isMissing rfl rfl rfl (by decide +kernel) ⟨Nat.le_of_ble_eq_true rfl, Nat.le_of_ble_eq_true rfl⟩) (xPreV hG hP hD hp (ci := 1) rfl (i := 0) rfl) rfl rfl hl.1 rfl (lv_room (Nat.le_of_ble_eq_true rfl)) dX4_drop_15 ⟨Nat.zero_le _, Nat.zero_le _⟩) hP hD hS hp (fun _ => rfl) (fun r_4 _ H locs hf hP hD hS => ?_)
    have hP : va_P D vwCl (wX k b ag as ap aq aa ab M N C Gr Pr Pa I Ln Sz dr pR pP pL pN qR qP qL qN aR aP aL aN bR bP bL bN) H := xP_perm (xPermC fun _ x => by have h9 := (wSS_put (k := k) (a := as) (I := I) (Ln := Ln) (Sz := Sz) (I2 := I) (Ln2 := Ln) (Sz2 := Sz) (Iv := (I (x1.toNatClampNeg))) (Lv := (Ln (x1.toNatClampNeg))) (Sv := (Sz (x1.toNatClampNeg))) (vp_lt h_3) rfl (fun _ _ => rfl) rfl (fun _ _ => rfl) rfl (fun _ _ => rfl)).count_eq x; simp only [wX, wW, List.count_append] at h9 ⊢; omega) hP
    have hD : va_D A (wX k b ag as ap aq aa ab M N C Gr Pr Pa I Ln Sz dr pR pP pL pN qR qP qL qN aR aP aL aN bR bP bL bN) := xD_perm (xPermC fun _ x => by have h9 := (wSS_put (k := k) (a := as) (I := I) (Ln := Ln) (Sz := Sz) (I2 := I) (Ln2 := Ln) (Sz2 := Sz) (Iv := (I (x1.toNatClampNeg))) (Lv := (Ln (x1.toNatClampNeg))) (Sv := (Sz (x1.toNatClampNeg))) (vp_lt h_3) rfl (fun _ _ => rfl) rfl (fun _ _ => rfl) rfl (fun _ _ => rfl)).count_eq x; simp only [wX, wW, List.count_append] at h9 ⊢; omega) hD
    refine lv_if_eq (tgt := 24) hx hb dX4_drop_18 (by decide) (fun c_5 => ?_) (fun c_5 => ?_)
    · have hf := hf.1 c_5
      refine lv_aload_n hx hb dX4_drop_24 rfl (lv_at hl 0 rfl) ?_
      refine va_get (D := D) (ci := 4) (C := RX4) (T := TX4) (N := 6) hx hb hts in_X4_drop_X4 hown hG.1 hP 0 rfl rfl 1 (by decide) (hts _ lk_X4_drop_18) (fun _ h9 => h9) rfl dX4_drop_25 ?_
      refine lv_iload_n hx hb dX4_drop_28 rfl (lv_at hl 1 rfl) ?_
      obtain ⟨h_6, hf⟩ := hf
      refine xAaldO (f := fun i => as (2 * i)) hx hb hG.1 hP 1 5 rfl rfl h_6 dX4_drop_29 ?_
      have hp : xPerm (wX k b ag as ap aq aa ab M N C Gr Pr Pa I Ln Sz dr pR pP pL pN qR qP qL qN aR aP aL aN bR bP bL bN) ((wS k (fun j => as (2 * x1.toNatClampNeg + j)) (I (x1.toNatClampNeg)) (Ln (x1.toNatClampNeg)) (Sz (x1.toNatClampNeg))) ++ (wSr k as I Ln Sz (x1.toNatClampNeg) ++ ([((b 0, .inr (4, [.ref (ag 0), .ref (b 1), .ref (b 2), .ref (aa 0), .ref (ab 0), .ref (b 3)])) : Nat × va_E)] ++ ([((b 1, .inl (k 5, 4, rfs (fun i => as (2 * i)))) : Nat × va_E)] ++ ([((b 2, .inr (3, [.ref (ap 0), .ref (aq 0)])) : Nat × va_E)] ++ ([((b 3, .inl (k 0, 40, .inl dr)) : Nat × va_E)] ++ (wG k ag M N C Gr Pr Pa ++ (wT k ap pR pP pL pN ++ (wT k aq qR qP qL qN ++ (wT k aa aR aP aL aN ++ wT k ab bR bP bL bN)))))))))) := (xPermC fun _ x => by have h9 := (wSS_cut (k := k) (a := as) (I := I) (Ln := Ln) (Sz := Sz) (vp_lt h_6)).count_eq x; simp only [wX, wW, List.count_append] at h9 ⊢; omega)
      refine xCallI (w := wS k (fun j => as (2 * x1.toNatClampNeg + j)) (I (x1.toNatClampNeg)) (Ln (x1.toNatClampNeg)) (Sz (x1.toNatClampNeg))) (r := wSr k as I Ln Sz (x1.toNatClampNeg) ++ ([((b 0, .inr (4, [.ref (ag 0), .ref (b 1), .ref (b 2), .ref (aa 0), .ref (ab 0), .ref (b 3)])) : Nat × va_E)] ++ ([((b 1, .inl (k 5, 4, rfs (fun i => as (2 * i)))) : Nat × va_E)] ++ ([((b 2, .inr (3, [.ref (ap 0), .ref (aq 0)])) : Nat × va_E)] ++ ([((b 3, .inl (k 0, 40, .inl dr)) : Nat × va_E)] ++ (wG k ag M N C Gr Pr Pa ++ (wT k ap pR pP pL pN ++ (wT k aq qR qP qL qN ++ (wT k aa aR aP aL aN ++ wT k ab bR bP bL bN))))))))) (va_runV (As := []) (rest := []) ⟨hx, hb, hml, hown, hts⟩ (c_X1_vanish (fun j => as (2 * x1.toNatClampNeg + j)) (I (x1.toNatClampNeg)) (Ln (x1.toNatClampNeg)) (Sz (x1.toNatClampNeg)) hf) (cwV 0 hts gX4_drop_X1_vanish rfl rfl rfl (by decide +kernel) ⟨Nat.le_of_ble_eq_true rfl, Nat.le_of_ble_eq_true rfl⟩) (xPreV hG hP hD hp (ci := 1) rfl (i := 0) rfl) rfl rfl hl.1 rfl (lv_room (Nat.le_of_ble_eq_true rfl)) dX4_drop_30 ⟨Nat.zero_le _, Nat.zero_le _⟩) hP hD hS hp (fun _ => rfl) (fun r_9 u H locs hf hP hD hS => ?_)
      obtain ⟨Ln_7, Sz_8⟩ := u
      have hP : va_P D vwCl (wX k b ag as ap aq aa ab M N C Gr Pr Pa I (va_up Ln (x1.toNatClampNeg) Ln_7) (va_up Sz (x1.toNatClampNeg) Sz_8) dr pR pP pL pN qR qP qL qN aR aP aL aN bR bP bL bN) H := xP_perm (xPermC fun _ x => by have h9 := (wSS_put (k := k) (a := as) (I := I) (Ln := Ln) (Sz := Sz) (I2 := I) (Ln2 := (va_up Ln (x1.toNatClampNeg) Ln_7)) (Sz2 := (va_up Sz (x1.toNatClampNeg) Sz_8)) (Iv := (I (x1.toNatClampNeg))) (Lv := Ln_7) (Sv := Sz_8) (vp_lt h_6) rfl (fun _ _ => rfl) (by simp [va_up]) (fun j h => by simp [va_up, h]) (by simp [va_up]) (fun j h => by simp [va_up, h])).count_eq x; simp only [wX, wW, List.count_append] at h9 ⊢; omega) hP
      have hD : va_D A (wX k b ag as ap aq aa ab M N C Gr Pr Pa I (va_up Ln (x1.toNatClampNeg) Ln_7) (va_up Sz (x1.toNatClampNeg) Sz_8) dr pR pP pL pN qR qP qL qN aR aP aL aN bR bP bL bN) := xD_perm (xPermC fun _ x => by have h9 := (wSS_put (k := k) (a := as) (I := I) (Ln := Ln) (Sz := Sz) (I2 := I) (Ln2 := (va_up Ln (x1.toNatClampNeg) Ln_7)) (Sz2 := (va_up Sz (x1.toNatClampNeg) Sz_8)) (Iv := (I (x1.toNatClampNeg))) (Lv := Ln_7) (Sv := Sz_8) (vp_lt h_6) rfl (fun _ _ => rfl) (by simp [va_up]) (fun j h => by simp [va_up, h]) (by simp [va_up]) (fun j h => by simp [va_up, h])).count_eq x; simp only [wX, wW, List.count_append] at h9 ⊢; omega) hD
      exact W.iret (v := r_9) hx hb hr (fun t ht hW => ⟨⟨r_9, ((va_up Ln (x1.toNatClampNeg) Ln_7), (va_up Sz (x1.toNatClampNeg) Sz_8)), rfl, hf, xHp ht hP⟩, hS.F ht⟩) hS.2.2 dX4_drop_33 hlocks
    · have hf := hf.2 c_5
      refine lv_bipush (v := (-11)) hx hb dX4_drop_21 (by decide) ?_
      exact W.iret (v := (-11)) hx hb hr (fun t ht hW => ⟨⟨((-11) : Int32), (Ln, Sz), rfl, hf, xHp ht hP⟩, hS.F ht⟩) hS.2.2 dX4_drop_23 hlocks
  · have hf := hf.1 c_2
    refine lv_iconst (v := (-1)) hx hb dX4_drop_7 (by decide) ?_
    exact W.iret (v := (-1)) hx hb hr (fun t ht hW => ⟨⟨((-1) : Int32), (Ln, Sz), rfl, hf, xHp ht hP⟩, hS.F ht⟩) hS.2.2 dX4_drop_8 hlocks

def p_X4_lookAtItems (Ln : Nat → Int32) (Sz : Nat → Int32) (x1 : Int32) (x2 : Int32) (x3 : Int32) (x4 : Int32) (post : Int32 → Prop) : Prop := p_X4_isSheet x1 (fun r_1 => ((r_1 = 0 → post (-1)) ∧ (¬ r_1 = 0 → p_X4_isLane x2 (fun r_3 => ((r_3 = 0 → post (-1)) ∧ (¬ r_3 = 0 → (vp_in x1 4 ∧ p_X1_isMissing (Ln (x1.toNatClampNeg)) (fun r_6 => ((r_6 = 0 → p_X1_isOf (Ln (x1.toNatClampNeg)) x2 (fun r_8 => ((r_8 = 0 → post (-12)) ∧ (¬ r_8 = 0 → p_X1_reaches (Sz (x1.toNatClampNeg)) x3 x4 (fun r_10 => ((r_10 = 0 → post (-13)) ∧ (¬ r_10 = 0 → post 1))))))) ∧ (¬ r_6 = 0 → post (-11)))))))))))
theorem in_X4_lookAtItems_X4 : ∀ w ∈ u_ws RX4 TX4 6, w ∈ wsX4_lookAtItems := by decide +kernel
theorem lk_X4_lookAtItems_18 : Cond.fieldLink RX4 18 "GrowingCorners" "sheets" "[LGrowingCorners$Sheet;" ∈ wsX4_lookAtItems := by decide +kernel
set_option maxHeartbeats 4000000 in
set_option maxRecDepth 100000 in
theorem c_X4_lookAtItems {l : Launch} {D : va_G} {k : Nat → ClassId} (b : Nat → Nat) (ag : Nat → Nat) (as : Nat → Nat) (ap : Nat → Nat) (aq : Nat → Nat) (aa : Nat → Nat) (ab : Nat → Nat) (M : Int32) (N : Int32) (C : Nat → Nat → Int32) (Gr : Nat → Nat → Int32) (Pr : Nat → Nat → Int64) (Pa : Nat → Nat → Int32) (I : Nat → Nat → Int64) (Ln : Nat → Int32) (Sz : Nat → Int32) (dr : Nat → Int32) (pR : Int32) (pP : Int32) (pL : Nat → Int32) (pN : Nat → Nat → Int32) (qR : Int32) (qP : Int32) (qL : Nat → Int32) (qN : Nat → Nat → Int32) (aR : Int32) (aP : Int32) (aL : Nat → Int32) (aN : Nat → Nat → Int32) (bR : Int32) (bP : Int32) (bL : Nat → Int32) (bN : Nat → Nat → Int32) (x1 : Int32) (x2 : Int32) (x3 : Int32) (x4 : Int32) {post : Int32 → Prop} (hf : p_X4_lookAtItems Ln Sz x1 x2 x3 x4 post) : ctI l yX4_lookAtItems wsX4_lookAtItems ({ frames := 2, cells := 0, slots := 0, locals := 42 }) D k [.ref (b 0), .int x1, .int x2, .int x3, .int x4] (wX k b ag as ap aq aa ab M N C Gr Pr Pa I Ln Sz dr pR pP pL pN qR qP qL qN aR aP aL aN bR bP bL bN) (fun u : Unit => wX k b ag as ap aq aa ab M N C Gr Pr Pa I Ln Sz dr pR pP pL pN qR qP qL qN aR aP aL aN bR bP bL bN) (fun (r : Int32) (u : Unit) => post r) := by
  refine Met.ofW (cc := cX4_lookAtItems) (maxL := 6) (ret := (some .int)) (by decide) rfl ?_
  intro p e s m args below meth c s₁ B hml hv
  obtain ⟨rfl, hP, hG, hD0⟩ := hv
  have C0 : xM p s m ([.ref (b 0), .int x1, .int x2, .int x3, .int x4] : List Value).toArray meth c cX4_lookAtItems 6 RX4 (some .int) wsX4_lookAtItems := ⟨B.exec, B.bytes, B.returns, atoms_spec (ws := wsX4_lookAtItems) B.pre, findClass_of_methodNamed B.named, B.notSynchronized, hml⟩
  obtain ⟨hx, hb, hr, hts, hown, hlocks, hml⟩ := id C0
  have hD := xSelf hD0
  have hS : va_S (xIn (wX k b ag as ap aq aa ab M N C Gr Pr Pa I Ln Sz dr pR pP pL pN qR qP qL qN aR aP aL aN bR bP bL bN)) s.heap s.heap [] := va_S.rf
  generalize xIn (wX k b ag as ap aq aa ab M N C Gr Pr Pa I Ln Sz dr pR pP pL pN qR qP qL qN aR aP aL aN bR bP bL bN) = A at hD hS ⊢
  have hl := lv_entry ([.ref (b 0), .int x1, .int x2, .int x3, .int x4]) (n := 6) (Nat.le_of_ble_eq_true rfl)
  rw [lg_entry_eq]
  generalize (lg_sl ([.ref (b 0), .int x1, .int x2, .int x3, .int x4]) ++ List.replicate (6 - (lg_sl ([.ref (b 0), .int x1, .int x2, .int x3, .int x4])).length) Slot.unset).toArray = ls at hl ⊢
  have hl : lv_has ls 6 [(0, .ref (b 0)), (1, .int x1), (2, .int x2), (3, .int x3), (4, .int x4)] := hl
  unfold p_X4_lookAtItems at hf
  refine lv_iload_n hx hb dX4_lookAtItems_0 rfl (lv_at hl 1 rfl) ?_
  have hp : xPerm (wX k b ag as ap aq aa ab M N C Gr Pr Pa I Ln Sz dr pR pP pL pN qR qP qL qN aR aP aL aN bR bP bL bN) (([]) ++ (wX k b ag as ap aq aa ab M N C Gr Pr Pa I Ln Sz dr pR pP pL pN qR qP qL qN aR aP aL aN bR bP bL bN)) := (List.Perm.refl _)
  refine xCallI (w := []) (r := wX k b ag as ap aq aa ab M N C Gr Pr Pa I Ln Sz dr pR pP pL pN qR qP qL qN aR aP aL aN bR bP bL bN) (va_runS (As := [.int x1]) (rest := []) ⟨hx, hb, hml, hown, hts⟩ (c_X4_isSheet x1 hf) (va_cwS 1 hts gX4_lookAtItems_X4_isSheet rfl rfl rfl (by decide +kernel) ⟨Nat.le_of_ble_eq_true rfl, Nat.le_of_ble_eq_true rfl⟩) (xPreS hG hP hD hp) rfl rfl hl.1 rfl (lv_room (Nat.le_of_ble_eq_true rfl)) dX4_lookAtItems_1 ⟨Nat.zero_le _, Nat.zero_le _⟩) hP hD hS hp (fun _ => rfl) (fun r_1 _ H locs hf hP hD hS => ?_)
  have hP : va_P D vwCl (wX k b ag as ap aq aa ab M N C Gr Pr Pa I Ln Sz dr pR pP pL pN qR qP qL qN aR aP aL aN bR bP bL bN) H := hP
  have hD : va_D A (wX k b ag as ap aq aa ab M N C Gr Pr Pa I Ln Sz dr pR pP pL pN qR qP qL qN aR aP aL aN bR bP bL bN) := hD
  refine lv_if_eq (tgt := 14) hx hb dX4_lookAtItems_4 (by decide) (fun c_2 => ?_) (fun c_2 => ?_)
  · have hf := hf.1 c_2
    refine lv_iconst (v := (-1)) hx hb dX4_lookAtItems_14 (by decide) ?_
    exact W.iret (v := (-1)) hx hb hr (fun t ht hW => ⟨⟨((-1) : Int32), (), rfl, hf, xHp ht hP⟩, hS.F ht⟩) hS.2.2 dX4_lookAtItems_15 hlocks
  · have hf := hf.2 c_2
    refine lv_iload_n hx hb dX4_lookAtItems_7 rfl (lv_at hl 2 rfl) ?_
    have hp : xPerm (wX k b ag as ap aq aa ab M N C Gr Pr Pa I Ln Sz dr pR pP pL pN qR qP qL qN aR aP aL aN bR bP bL bN) (([]) ++ (wX k b ag as ap aq aa ab M N C Gr Pr Pa I Ln Sz dr pR pP pL pN qR qP qL qN aR aP aL aN bR bP bL bN)) := (List.Perm.refl _)
    refine xCallI (w := []) (r := wX k b ag as ap aq aa ab M N C Gr Pr Pa I Ln Sz dr pR pP pL pN qR qP qL qN aR aP aL aN bR bP bL bN) (va_runS (As := [.int x2]) (rest := []) ⟨hx, hb, hml, hown, hts⟩ (c_X4_isLane x2 hf) (va_cwS 1 hts gX4_lookAtItems_X4_isLane rfl rfl rfl (by decide +kernel) ⟨Nat.le_of_ble_eq_true rfl, Nat.le_of_ble_eq_true rfl⟩) (xPreS hG hP hD hp) rfl rfl hl.1 rfl (lv_room (Nat.le_of_ble_eq_true rfl)) dX4_lookAtItems_8 ⟨Nat.zero_le _, Nat.zero_le _⟩) hP hD hS hp (fun _ => rfl) (fun r_3 _ H locs hf hP hD hS => ?_)
    have hP : va_P D vwCl (wX k b ag as ap aq aa ab M N C Gr Pr Pa I Ln Sz dr pR pP pL pN qR qP qL qN aR aP aL aN bR bP bL bN) H := hP
    have hD : va_D A (wX k b ag as ap aq aa ab M N C Gr Pr Pa I Ln Sz dr pR pP pL pN qR qP qL qN aR aP aL aN bR bP bL bN) := hD
    refine lv_if_ne (tgt := 16) hx hb dX4_lookAtItems_11 (by decide) (fun c_4 => ?_) (fun c_4 => ?_)
    · have hf := hf.2 c_4
      refine lv_aload_n hx hb dX4_lookAtItems_16 rfl (lv_at hl 0 rfl) ?_
      refine va_get (D := D) (ci := 4) (C := RX4) (T := TX4) (N := 6) hx hb hts in_X4_lookAtItems_X4 hown hG.1 hP 0 rfl rfl 1 (by decide) (hts _ lk_X4_lookAtItems_18) (fun _ h9 => h9) rfl dX4_lookAtItems_17 ?_
      refine lv_iload_n hx hb dX4_lookAtItems_20 rfl (lv_at hl 1 rfl) ?_
      obtain ⟨h_5, hf⟩ := hf
      refine xAaldO (f := fun i => as (2 * i)) hx hb hG.1 hP 1 5 rfl rfl h_5 dX4_lookAtItems_21 ?_
      refine lv_astore (lv' := [(5, .ref (as (2 * x1.toNatClampNeg))), (0, .ref (b 0)), (1, .int x1), (2, .int x2), (3, .int x3), (4, .int x4)]) hx hb dX4_lookAtItems_22 hl (by decide) rfl (fun ls hl => ?_)
      refine lv_aload hx hb dX4_lookAtItems_24 (lv_at hl 0 rfl) ?_
      have hp : xPerm (wX k b ag as ap aq aa ab M N C Gr Pr Pa I Ln Sz dr pR pP pL pN qR qP qL qN aR aP aL aN bR bP bL bN) ((wS k (fun j => as (2 * x1.toNatClampNeg + j)) (I (x1.toNatClampNeg)) (Ln (x1.toNatClampNeg)) (Sz (x1.toNatClampNeg))) ++ (wSr k as I Ln Sz (x1.toNatClampNeg) ++ ([((b 0, .inr (4, [.ref (ag 0), .ref (b 1), .ref (b 2), .ref (aa 0), .ref (ab 0), .ref (b 3)])) : Nat × va_E)] ++ ([((b 1, .inl (k 5, 4, rfs (fun i => as (2 * i)))) : Nat × va_E)] ++ ([((b 2, .inr (3, [.ref (ap 0), .ref (aq 0)])) : Nat × va_E)] ++ ([((b 3, .inl (k 0, 40, .inl dr)) : Nat × va_E)] ++ (wG k ag M N C Gr Pr Pa ++ (wT k ap pR pP pL pN ++ (wT k aq qR qP qL qN ++ (wT k aa aR aP aL aN ++ wT k ab bR bP bL bN)))))))))) := (xPermC fun _ x => by have h9 := (wSS_cut (k := k) (a := as) (I := I) (Ln := Ln) (Sz := Sz) (vp_lt h_5)).count_eq x; simp only [wX, wW, List.count_append] at h9 ⊢; omega)
      refine xCallI (w := wS k (fun j => as (2 * x1.toNatClampNeg + j)) (I (x1.toNatClampNeg)) (Ln (x1.toNatClampNeg)) (Sz (x1.toNatClampNeg))) (r := wSr k as I Ln Sz (x1.toNatClampNeg) ++ ([((b 0, .inr (4, [.ref (ag 0), .ref (b 1), .ref (b 2), .ref (aa 0), .ref (ab 0), .ref (b 3)])) : Nat × va_E)] ++ ([((b 1, .inl (k 5, 4, rfs (fun i => as (2 * i)))) : Nat × va_E)] ++ ([((b 2, .inr (3, [.ref (ap 0), .ref (aq 0)])) : Nat × va_E)] ++ ([((b 3, .inl (k 0, 40, .inl dr)) : Nat × va_E)] ++ (wG k ag M N C Gr Pr Pa ++ (wT k ap pR pP pL pN ++ (wT k aq qR qP qL qN ++ (wT k aa aR aP aL aN ++ wT k ab bR bP bL bN))))))))) (va_runV (As := []) (rest := []) ⟨hx, hb, hml, hown, hts⟩ (c_X1_isMissing (fun j => as (2 * x1.toNatClampNeg + j)) (I (x1.toNatClampNeg)) (Ln (x1.toNatClampNeg)) (Sz (x1.toNatClampNeg)) hf) (cwV 0 hts gX4_lookAtItems_X1_isMissing rfl rfl rfl (by decide +kernel) ⟨Nat.le_of_ble_eq_true rfl, Nat.le_of_ble_eq_true rfl⟩) (xPreV hG hP hD hp (ci := 1) rfl (i := 0) rfl) rfl rfl hl.1 rfl (lv_room (Nat.le_of_ble_eq_true rfl)) dX4_lookAtItems_26 ⟨Nat.zero_le _, Nat.zero_le _⟩) hP hD hS hp (fun _ => rfl) (fun r_6 _ H locs hf hP hD hS => ?_)
      have hP : va_P D vwCl (wX k b ag as ap aq aa ab M N C Gr Pr Pa I Ln Sz dr pR pP pL pN qR qP qL qN aR aP aL aN bR bP bL bN) H := xP_perm (xPermC fun _ x => by have h9 := (wSS_put (k := k) (a := as) (I := I) (Ln := Ln) (Sz := Sz) (I2 := I) (Ln2 := Ln) (Sz2 := Sz) (Iv := (I (x1.toNatClampNeg))) (Lv := (Ln (x1.toNatClampNeg))) (Sv := (Sz (x1.toNatClampNeg))) (vp_lt h_5) rfl (fun _ _ => rfl) rfl (fun _ _ => rfl) rfl (fun _ _ => rfl)).count_eq x; simp only [wX, wW, List.count_append] at h9 ⊢; omega) hP
      have hD : va_D A (wX k b ag as ap aq aa ab M N C Gr Pr Pa I Ln Sz dr pR pP pL pN qR qP qL qN aR aP aL aN bR bP bL bN) := xD_perm (xPermC fun _ x => by have h9 := (wSS_put (k := k) (a := as) (I := I) (Ln := Ln) (Sz := Sz) (I2 := I) (Ln2 := Ln) (Sz2 := Sz) (Iv := (I (x1.toNatClampNeg))) (Lv := (Ln (x1.toNatClampNeg))) (Sv := (Sz (x1.toNatClampNeg))) (vp_lt h_5) rfl (fun _ _ => rfl) rfl (fun _ _ => rfl) rfl (fun _ _ => rfl)).count_eq x; simp only [wX, wW, List.count_append] at h9 ⊢; omega) hD
      refine lv_if_eq (tgt := 35) hx hb dX4_lookAtItems_29 (by decide) (fun c_7 => ?_) (fun c_7 => ?_)
      · have hf := hf.1 c_7
        refine lv_aload hx hb dX4_lookAtItems_35 (lv_at hl 0 rfl) ?_
        refine lv_iload_n hx hb dX4_lookAtItems_37 rfl (lv_at hl 3 rfl) ?_
        have hp : xPerm (wX k b ag as ap aq aa ab M N C Gr Pr Pa I Ln Sz dr pR pP pL pN qR qP qL qN aR aP aL aN bR bP bL bN) ((wS k (fun j => as (2 * x1.toNatClampNeg + j)) (I (x1.toNatClampNeg)) (Ln (x1.toNatClampNeg)) (Sz (x1.toNatClampNeg))) ++ (wSr k as I Ln Sz (x1.toNatClampNeg) ++ ([((b 0, .inr (4, [.ref (ag 0), .ref (b 1), .ref (b 2), .ref (aa 0), .ref (ab 0), .ref (b 3)])) : Nat × va_E)] ++ ([((b 1, .inl (k 5, 4, rfs (fun i => as (2 * i)))) : Nat × va_E)] ++ ([((b 2, .inr (3, [.ref (ap 0), .ref (aq 0)])) : Nat × va_E)] ++ ([((b 3, .inl (k 0, 40, .inl dr)) : Nat × va_E)] ++ (wG k ag M N C Gr Pr Pa ++ (wT k ap pR pP pL pN ++ (wT k aq qR qP qL qN ++ (wT k aa aR aP aL aN ++ wT k ab bR bP bL bN)))))))))) := (xPermC fun _ x => by have h9 := (wSS_cut (k := k) (a := as) (I := I) (Ln := Ln) (Sz := Sz) (vp_lt h_5)).count_eq x; simp only [wX, wW, List.count_append] at h9 ⊢; omega)
        refine xCallI (w := wS k (fun j => as (2 * x1.toNatClampNeg + j)) (I (x1.toNatClampNeg)) (Ln (x1.toNatClampNeg)) (Sz (x1.toNatClampNeg))) (r := wSr k as I Ln Sz (x1.toNatClampNeg) ++ ([((b 0, .inr (4, [.ref (ag 0), .ref (b 1), .ref (b 2), .ref (aa 0), .ref (ab 0), .ref (b 3)])) : Nat × va_E)] ++ ([((b 1, .inl (k 5, 4, rfs (fun i => as (2 * i)))) : Nat × va_E)] ++ ([((b 2, .inr (3, [.ref (ap 0), .ref (aq 0)])) : Nat × va_E)] ++ ([((b 3, .inl (k 0, 40, .inl dr)) : Nat × va_E)] ++ (wG k ag M N C Gr Pr Pa ++ (wT k ap pR pP pL pN ++ (wT k aq qR qP qL qN ++ (wT k aa aR aP aL aN ++ wT k ab bR bP bL bN))))))))) (va_runV (As := [.int x2]) (rest := []) ⟨hx, hb, hml, hown, hts⟩ (c_X1_isOf (fun j => as (2 * x1.toNatClampNeg + j)) (I (x1.toNatClampNeg)) (Ln (x1.toNatClampNeg)) (Sz (x1.toNatClampNeg)) x2 hf) (cwV 1 hts gX4_lookAtItems_X1_isOf rfl rfl rfl (by decide +kernel) ⟨Nat.le_of_ble_eq_true rfl, Nat.le_of_ble_eq_true rfl⟩) (xPreV hG hP hD hp (ci := 1) rfl (i := 0) rfl) rfl rfl hl.1 rfl (lv_room (Nat.le_of_ble_eq_true rfl)) dX4_lookAtItems_38 ⟨Nat.zero_le _, Nat.zero_le _⟩) hP hD hS hp (fun _ => rfl) (fun r_8 _ H locs hf hP hD hS => ?_)
        have hP : va_P D vwCl (wX k b ag as ap aq aa ab M N C Gr Pr Pa I Ln Sz dr pR pP pL pN qR qP qL qN aR aP aL aN bR bP bL bN) H := xP_perm (xPermC fun _ x => by have h9 := (wSS_put (k := k) (a := as) (I := I) (Ln := Ln) (Sz := Sz) (I2 := I) (Ln2 := Ln) (Sz2 := Sz) (Iv := (I (x1.toNatClampNeg))) (Lv := (Ln (x1.toNatClampNeg))) (Sv := (Sz (x1.toNatClampNeg))) (vp_lt h_5) rfl (fun _ _ => rfl) rfl (fun _ _ => rfl) rfl (fun _ _ => rfl)).count_eq x; simp only [wX, wW, List.count_append] at h9 ⊢; omega) hP
        have hD : va_D A (wX k b ag as ap aq aa ab M N C Gr Pr Pa I Ln Sz dr pR pP pL pN qR qP qL qN aR aP aL aN bR bP bL bN) := xD_perm (xPermC fun _ x => by have h9 := (wSS_put (k := k) (a := as) (I := I) (Ln := Ln) (Sz := Sz) (I2 := I) (Ln2 := Ln) (Sz2 := Sz) (Iv := (I (x1.toNatClampNeg))) (Lv := (Ln (x1.toNatClampNeg))) (Sv := (Sz (x1.toNatClampNeg))) (vp_lt h_5) rfl (fun _ _ => rfl) rfl (fun _ _ => rfl) rfl (fun _ _ => rfl)).count_eq x; simp only [wX, wW, List.count_append] at h9 ⊢; omega) hD
        refine lv_if_ne (tgt := 47) hx hb dX4_lookAtItems_41 (by decide) (fun c_9 => ?_) (fun c_9 => ?_)
        · have hf := hf.2 c_9
          refine lv_aload hx hb dX4_lookAtItems_47 (lv_at hl 0 rfl) ?_
          refine lv_iload_n hx hb dX4_lookAtItems_49 rfl (lv_at hl 4 rfl) ?_
          refine lv_iload hx hb dX4_lookAtItems_50 (lv_at hl 5 rfl) ?_
          have hp : xPerm (wX k b ag as ap aq aa ab M N C Gr Pr Pa I Ln Sz dr pR pP pL pN qR qP qL qN aR aP aL aN bR bP bL bN) ((wS k (fun j => as (2 * x1.toNatClampNeg + j)) (I (x1.toNatClampNeg)) (Ln (x1.toNatClampNeg)) (Sz (x1.toNatClampNeg))) ++ (wSr k as I Ln Sz (x1.toNatClampNeg) ++ ([((b 0, .inr (4, [.ref (ag 0), .ref (b 1), .ref (b 2), .ref (aa 0), .ref (ab 0), .ref (b 3)])) : Nat × va_E)] ++ ([((b 1, .inl (k 5, 4, rfs (fun i => as (2 * i)))) : Nat × va_E)] ++ ([((b 2, .inr (3, [.ref (ap 0), .ref (aq 0)])) : Nat × va_E)] ++ ([((b 3, .inl (k 0, 40, .inl dr)) : Nat × va_E)] ++ (wG k ag M N C Gr Pr Pa ++ (wT k ap pR pP pL pN ++ (wT k aq qR qP qL qN ++ (wT k aa aR aP aL aN ++ wT k ab bR bP bL bN)))))))))) := (xPermC fun _ x => by have h9 := (wSS_cut (k := k) (a := as) (I := I) (Ln := Ln) (Sz := Sz) (vp_lt h_5)).count_eq x; simp only [wX, wW, List.count_append] at h9 ⊢; omega)
          refine xCallI (w := wS k (fun j => as (2 * x1.toNatClampNeg + j)) (I (x1.toNatClampNeg)) (Ln (x1.toNatClampNeg)) (Sz (x1.toNatClampNeg))) (r := wSr k as I Ln Sz (x1.toNatClampNeg) ++ ([((b 0, .inr (4, [.ref (ag 0), .ref (b 1), .ref (b 2), .ref (aa 0), .ref (ab 0), .ref (b 3)])) : Nat × va_E)] ++ ([((b 1, .inl (k 5, 4, rfs (fun i => as (2 * i)))) : Nat × va_E)] ++ ([((b 2, .inr (3, [.ref (ap 0), .ref (aq 0)])) : Nat × va_E)] ++ ([((b 3, .inl (k 0, 40, .inl dr)) : Nat × va_E)] ++ (wG k ag M N C Gr Pr Pa ++ (wT k ap pR pP pL pN ++ (wT k aq qR qP qL qN ++ (wT k aa aR aP aL aN ++ wT k ab bR bP bL bN))))))))) (va_runV (As := [.int x3, .int x4]) (rest := []) ⟨hx, hb, hml, hown, hts⟩ (c_X1_reaches (fun j => as (2 * x1.toNatClampNeg + j)) (I (x1.toNatClampNeg)) (Ln (x1.toNatClampNeg)) (Sz (x1.toNatClampNeg)) x3 x4 hf) (cwV 2 hts gX4_lookAtItems_X1_reaches rfl rfl rfl (by decide +kernel) ⟨Nat.le_of_ble_eq_true rfl, Nat.le_of_ble_eq_true rfl⟩) (xPreV hG hP hD hp (ci := 1) rfl (i := 0) rfl) rfl rfl hl.1 rfl (lv_room (Nat.le_of_ble_eq_true rfl)) dX4_lookAtItems_52 ⟨Nat.zero_le _, Nat.zero_le _⟩) hP hD hS hp (fun _ => rfl) (fun r_10 _ H locs hf hP hD hS => ?_)
          have hP : va_P D vwCl (wX k b ag as ap aq aa ab M N C Gr Pr Pa I Ln Sz dr pR pP pL pN qR qP qL qN aR aP aL aN bR bP bL bN) H := xP_perm (xPermC fun _ x => by have h9 := (wSS_put (k := k) (a := as) (I := I) (Ln := Ln) (Sz := Sz) (I2 := I) (Ln2 := Ln) (Sz2 := Sz) (Iv := (I (x1.toNatClampNeg))) (Lv := (Ln (x1.toNatClampNeg))) (Sv := (Sz (x1.toNatClampNeg))) (vp_lt h_5) rfl (fun _ _ => rfl) rfl (fun _ _ => rfl) rfl (fun _ _ => rfl)).count_eq x; simp only [wX, wW, List.count_append] at h9 ⊢; omega) hP
          have hD : va_D A (wX k b ag as ap aq aa ab M N C Gr Pr Pa I Ln Sz dr pR pP pL pN qR qP qL qN aR aP aL aN bR bP bL bN) := xD_perm (xPermC fun _ x => by have h9 := (wSS_put (k := k) (a := as) (I := I) (Ln := Ln) (Sz := Sz) (I2 := I) (Ln2 := Ln) (Sz2 := Sz) (Iv := (I (x1.toNatClampNeg))) (Lv := (Ln (x1.toNatClampNeg))) (Sv := (Sz (x1.toNatClampNeg))) (vp_lt h_5) rfl (fun _ _ => rfl) rfl (fun _ _ => rfl) rfl (fun _ _ => rfl)).count_eq x; simp only [wX, wW, List.count_append] at h9 ⊢; omega) hD
          refine lv_if_eq (tgt := 62) hx hb dX4_lookAtItems_55 (by decide) (fun c_11 => ?_) (fun c_11 => ?_)
          · have hf := hf.1 c_11
            refine lv_bipush (v := (-13)) hx hb dX4_lookAtItems_62 (by decide) ?_
            exact W.iret (v := (-13)) hx hb hr (fun t ht hW => ⟨⟨((-13) : Int32), (), rfl, hf, xHp ht hP⟩, hS.F ht⟩) hS.2.2 dX4_lookAtItems_64 hlocks
          · have hf := hf.2 c_11
            refine lv_iconst (v := 1) hx hb dX4_lookAtItems_58 (by decide) ?_
            refine lv_goto (tgt := 64) hx hb dX4_lookAtItems_59 (by decide) ?_
            exact W.iret (v := 1) hx hb hr (fun t ht hW => ⟨⟨(1 : Int32), (), rfl, hf, xHp ht hP⟩, hS.F ht⟩) hS.2.2 dX4_lookAtItems_64 hlocks
        · have hf := hf.1 c_9
          refine lv_bipush (v := (-12)) hx hb dX4_lookAtItems_44 (by decide) ?_
          exact W.iret (v := (-12)) hx hb hr (fun t ht hW => ⟨⟨((-12) : Int32), (), rfl, hf, xHp ht hP⟩, hS.F ht⟩) hS.2.2 dX4_lookAtItems_46 hlocks
      · have hf := hf.2 c_7
        refine lv_bipush (v := (-11)) hx hb dX4_lookAtItems_32 (by decide) ?_
        exact W.iret (v := (-11)) hx hb hr (fun t ht hW => ⟨⟨((-11) : Int32), (), rfl, hf, xHp ht hP⟩, hS.F ht⟩) hS.2.2 dX4_lookAtItems_34 hlocks
    · have hf := hf.1 c_4
      refine lv_iconst (v := (-1)) hx hb dX4_lookAtItems_14 (by decide) ?_
      exact W.iret (v := (-1)) hx hb hr (fun t ht hW => ⟨⟨((-1) : Int32), (), rfl, hf, xHp ht hP⟩, hS.F ht⟩) hS.2.2 dX4_lookAtItems_15 hlocks

def p_X4_item (I : Nat → Nat → Int64) (Ln : Nat → Int32) (Sz : Nat → Int32) (x1 : Int32) (x2 : Int32) (x3 : Int32) (x4 : Int32) (post : Int32 → (Nat → Nat → Int64) → Prop) : Prop := p_X4_lookAtItems Ln Sz x1 x2 x3 1 (fun r_1 => ((r_1 = 1 → (vp_in x1 4 ∧ p_X1_setItem (I (x1.toNatClampNeg)) x3 x4 (fun I_4 => post 1 (va_up I (x1.toNatClampNeg) I_4)))) ∧ (¬ r_1 = 1 → post r_1 I)))
theorem in_X4_item_X4 : ∀ w ∈ u_ws RX4 TX4 6, w ∈ wsX4_item := by decide +kernel
theorem lk_X4_item_18 : Cond.fieldLink RX4 18 "GrowingCorners" "sheets" "[LGrowingCorners$Sheet;" ∈ wsX4_item := by decide +kernel
set_option maxHeartbeats 4000000 in
set_option maxRecDepth 100000 in
theorem c_X4_item {l : Launch} {D : va_G} {k : Nat → ClassId} (b : Nat → Nat) (ag : Nat → Nat) (as : Nat → Nat) (ap : Nat → Nat) (aq : Nat → Nat) (aa : Nat → Nat) (ab : Nat → Nat) (M : Int32) (N : Int32) (C : Nat → Nat → Int32) (Gr : Nat → Nat → Int32) (Pr : Nat → Nat → Int64) (Pa : Nat → Nat → Int32) (I : Nat → Nat → Int64) (Ln : Nat → Int32) (Sz : Nat → Int32) (dr : Nat → Int32) (pR : Int32) (pP : Int32) (pL : Nat → Int32) (pN : Nat → Nat → Int32) (qR : Int32) (qP : Int32) (qL : Nat → Int32) (qN : Nat → Nat → Int32) (aR : Int32) (aP : Int32) (aL : Nat → Int32) (aN : Nat → Nat → Int32) (bR : Int32) (bP : Int32) (bL : Nat → Int32) (bN : Nat → Nat → Int32) (x1 : Int32) (x2 : Int32) (x3 : Int32) (x4 : Int32) {post : Int32 → (Nat → Nat → Int64) → Prop} (hf : p_X4_item I Ln Sz x1 x2 x3 x4 post) : ctI l yX4_item wsX4_item ({ frames := 3, cells := 0, slots := 0, locals := 67 }) D k [.ref (b 0), .int x1, .int x2, .int x3, .int x4] (wX k b ag as ap aq aa ab M N C Gr Pr Pa I Ln Sz dr pR pP pL pN qR qP qL qN aR aP aL aN bR bP bL bN) (fun u : (Nat → Nat → Int64) => wX k b ag as ap aq aa ab M N C Gr Pr Pa u Ln Sz dr pR pP pL pN qR qP qL qN aR aP aL aN bR bP bL bN) (fun (r : Int32) (u : (Nat → Nat → Int64)) => post r u) := by
  refine Met.ofW (cc := cX4_item) (maxL := 6) (ret := (some .int)) (by decide) rfl ?_
  intro p e s m args below meth c s₁ B hml hv
  obtain ⟨rfl, hP, hG, hD0⟩ := hv
  have C0 : xM p s m ([.ref (b 0), .int x1, .int x2, .int x3, .int x4] : List Value).toArray meth c cX4_item 6 RX4 (some .int) wsX4_item := ⟨B.exec, B.bytes, B.returns, atoms_spec (ws := wsX4_item) B.pre, findClass_of_methodNamed B.named, B.notSynchronized, hml⟩
  obtain ⟨hx, hb, hr, hts, hown, hlocks, hml⟩ := id C0
  have hD := xSelf hD0
  have hS : va_S (xIn (wX k b ag as ap aq aa ab M N C Gr Pr Pa I Ln Sz dr pR pP pL pN qR qP qL qN aR aP aL aN bR bP bL bN)) s.heap s.heap [] := va_S.rf
  generalize xIn (wX k b ag as ap aq aa ab M N C Gr Pr Pa I Ln Sz dr pR pP pL pN qR qP qL qN aR aP aL aN bR bP bL bN) = A at hD hS ⊢
  have hl := lv_entry ([.ref (b 0), .int x1, .int x2, .int x3, .int x4]) (n := 6) (Nat.le_of_ble_eq_true rfl)
  rw [lg_entry_eq]
  generalize (lg_sl ([.ref (b 0), .int x1, .int x2, .int x3, .int x4]) ++ List.replicate (6 - (lg_sl ([.ref (b 0), .int x1, .int x2, .int x3, .int x4])).length) Slot.unset).toArray = ls at hl ⊢
  have hl : lv_has ls 6 [(0, .ref (b 0)), (1, .int x1), (2, .int x2), (3, .int x3), (4, .int x4)] := hl
  unfold p_X4_item at hf
  refine lv_aload_n hx hb dX4_item_0 rfl (lv_at hl 0 rfl) ?_
  refine lv_iload_n hx hb dX4_item_1 rfl (lv_at hl 1 rfl) ?_
  refine lv_iload_n hx hb dX4_item_2 rfl (lv_at hl 2 rfl) ?_
  refine lv_iload_n hx hb dX4_item_3 rfl (lv_at hl 3 rfl) ?_
  refine lv_iconst (v := 1) hx hb dX4_item_4 (by decide) ?_
  have hp : xPerm (wX k b ag as ap aq aa ab M N C Gr Pr Pa I Ln Sz dr pR pP pL pN qR qP qL qN aR aP aL aN bR bP bL bN) ((wX k b ag as ap aq aa ab M N C Gr Pr Pa I Ln Sz dr pR pP pL pN qR qP qL qN aR aP aL aN bR bP bL bN) ++ ([])) := xPermNil
  refine xCallI (w := wX k b ag as ap aq aa ab M N C Gr Pr Pa I Ln Sz dr pR pP pL pN qR qP qL qN aR aP aL aN bR bP bL bN) (r := []) (va_runV (As := [.int x1, .int x2, .int x3, .int 1]) (rest := []) ⟨hx, hb, hml, hown, hts⟩ (c_X4_lookAtItems b ag as ap aq aa ab M N C Gr Pr Pa I Ln Sz dr pR pP pL pN qR qP qL qN aR aP aL aN bR bP bL bN x1 x2 x3 1 hf) (cwV 4 hts gX4_item_X4_lookAtItems rfl rfl rfl (by decide +kernel) ⟨Nat.le_of_ble_eq_true rfl, Nat.le_of_ble_eq_true rfl⟩) (xPreV hG hP hD hp (ci := 4) rfl (i := 0) rfl) rfl rfl hl.1 rfl (lv_room (Nat.le_of_ble_eq_true rfl)) dX4_item_5 ⟨Nat.zero_le _, Nat.zero_le _⟩) hP hD hS hp (fun _ => wX_adr) (fun r_1 _ H locs hf hP hD hS => ?_)
  have hP : va_P D vwCl (wX k b ag as ap aq aa ab M N C Gr Pr Pa I Ln Sz dr pR pP pL pN qR qP qL qN aR aP aL aN bR bP bL bN) H := xNilP hP
  have hD : va_D A (wX k b ag as ap aq aa ab M N C Gr Pr Pa I Ln Sz dr pR pP pL pN qR qP qL qN aR aP aL aN bR bP bL bN) := xNilD hD
  refine lv_istore (lv' := [(5, .int r_1), (0, .ref (b 0)), (1, .int x1), (2, .int x2), (3, .int x3), (4, .int x4)]) hx hb dX4_item_8 hl (by decide) rfl (fun ls hl => ?_)
  refine lv_iload hx hb dX4_item_10 (lv_at hl 0 rfl) ?_
  refine lv_iconst (v := 1) hx hb dX4_item_12 (by decide) ?_
  refine lv_icmp_eq (tgt := 19) hx hb dX4_item_13 (by decide) (fun c_2 => ?_) (fun c_2 => ?_)
  · have hf := hf.1 c_2
    refine lv_aload_n hx hb dX4_item_19 rfl (lv_at hl 1 rfl) ?_
    refine va_get (D := D) (ci := 4) (C := RX4) (T := TX4) (N := 6) hx hb hts in_X4_item_X4 hown hG.1 hP 0 rfl rfl 1 (by decide) (hts _ lk_X4_item_18) (fun _ h9 => h9) rfl dX4_item_20 ?_
    refine lv_iload_n hx hb dX4_item_23 rfl (lv_at hl 2 rfl) ?_
    obtain ⟨h_3, hf⟩ := hf
    refine xAaldO (f := fun i => as (2 * i)) hx hb hG.1 hP 1 5 rfl rfl h_3 dX4_item_24 ?_
    refine lv_iload_n hx hb dX4_item_25 rfl (lv_at hl 4 rfl) ?_
    refine lv_iload hx hb dX4_item_26 (lv_at hl 5 rfl) ?_
    have hp : xPerm (wX k b ag as ap aq aa ab M N C Gr Pr Pa I Ln Sz dr pR pP pL pN qR qP qL qN aR aP aL aN bR bP bL bN) ((wS k (fun j => as (2 * x1.toNatClampNeg + j)) (I (x1.toNatClampNeg)) (Ln (x1.toNatClampNeg)) (Sz (x1.toNatClampNeg))) ++ (wSr k as I Ln Sz (x1.toNatClampNeg) ++ ([((b 0, .inr (4, [.ref (ag 0), .ref (b 1), .ref (b 2), .ref (aa 0), .ref (ab 0), .ref (b 3)])) : Nat × va_E)] ++ ([((b 1, .inl (k 5, 4, rfs (fun i => as (2 * i)))) : Nat × va_E)] ++ ([((b 2, .inr (3, [.ref (ap 0), .ref (aq 0)])) : Nat × va_E)] ++ ([((b 3, .inl (k 0, 40, .inl dr)) : Nat × va_E)] ++ (wG k ag M N C Gr Pr Pa ++ (wT k ap pR pP pL pN ++ (wT k aq qR qP qL qN ++ (wT k aa aR aP aL aN ++ wT k ab bR bP bL bN)))))))))) := (xPermC fun _ x => by have h9 := (wSS_cut (k := k) (a := as) (I := I) (Ln := Ln) (Sz := Sz) (vp_lt h_3)).count_eq x; simp only [wX, wW, List.count_append] at h9 ⊢; omega)
    refine xCallV (w := wS k (fun j => as (2 * x1.toNatClampNeg + j)) (I (x1.toNatClampNeg)) (Ln (x1.toNatClampNeg)) (Sz (x1.toNatClampNeg))) (r := wSr k as I Ln Sz (x1.toNatClampNeg) ++ ([((b 0, .inr (4, [.ref (ag 0), .ref (b 1), .ref (b 2), .ref (aa 0), .ref (ab 0), .ref (b 3)])) : Nat × va_E)] ++ ([((b 1, .inl (k 5, 4, rfs (fun i => as (2 * i)))) : Nat × va_E)] ++ ([((b 2, .inr (3, [.ref (ap 0), .ref (aq 0)])) : Nat × va_E)] ++ ([((b 3, .inl (k 0, 40, .inl dr)) : Nat × va_E)] ++ (wG k ag M N C Gr Pr Pa ++ (wT k ap pR pP pL pN ++ (wT k aq qR qP qL qN ++ (wT k aa aR aP aL aN ++ wT k ab bR bP bL bN))))))))) (va_runV (As := [.int x3, .int x4]) (rest := []) ⟨hx, hb, hml, hown, hts⟩ (c_X1_setItem (fun j => as (2 * x1.toNatClampNeg + j)) (I (x1.toNatClampNeg)) (Ln (x1.toNatClampNeg)) (Sz (x1.toNatClampNeg)) x3 x4 hf) (cwV 2 hts gX4_item_X1_setItem rfl rfl rfl (by decide +kernel) ⟨Nat.le_of_ble_eq_true rfl, Nat.le_of_ble_eq_true rfl⟩) (xPreV hG hP hD hp (ci := 1) rfl (i := 0) rfl) rfl rfl hl.1 rfl (lv_room (Nat.le_of_ble_eq_true rfl)) dX4_item_28 ⟨Nat.zero_le _, Nat.zero_le _⟩) hP hD hS hp (fun _ => rfl) (fun I_4 H locs hf hP hD hS => ?_)
    have hP : va_P D vwCl (wX k b ag as ap aq aa ab M N C Gr Pr Pa (va_up I (x1.toNatClampNeg) I_4) Ln Sz dr pR pP pL pN qR qP qL qN aR aP aL aN bR bP bL bN) H := xP_perm (xPermC fun _ x => by have h9 := (wSS_put (k := k) (a := as) (I := I) (Ln := Ln) (Sz := Sz) (I2 := (va_up I (x1.toNatClampNeg) I_4)) (Ln2 := Ln) (Sz2 := Sz) (Iv := I_4) (Lv := (Ln (x1.toNatClampNeg))) (Sv := (Sz (x1.toNatClampNeg))) (vp_lt h_3) (by simp [va_up]) (fun j h => by simp [va_up, h]) rfl (fun _ _ => rfl) rfl (fun _ _ => rfl)).count_eq x; simp only [wX, wW, List.count_append] at h9 ⊢; omega) hP
    have hD : va_D A (wX k b ag as ap aq aa ab M N C Gr Pr Pa (va_up I (x1.toNatClampNeg) I_4) Ln Sz dr pR pP pL pN qR qP qL qN aR aP aL aN bR bP bL bN) := xD_perm (xPermC fun _ x => by have h9 := (wSS_put (k := k) (a := as) (I := I) (Ln := Ln) (Sz := Sz) (I2 := (va_up I (x1.toNatClampNeg) I_4)) (Ln2 := Ln) (Sz2 := Sz) (Iv := I_4) (Lv := (Ln (x1.toNatClampNeg))) (Sv := (Sz (x1.toNatClampNeg))) (vp_lt h_3) (by simp [va_up]) (fun j h => by simp [va_up, h]) rfl (fun _ _ => rfl) rfl (fun _ _ => rfl)).count_eq x; simp only [wX, wW, List.count_append] at h9 ⊢; omega) hD
    refine lv_iconst (v := 1) hx hb dX4_item_31 (by decide) ?_
    exact W.iret (v := 1) hx hb hr (fun t ht hW => ⟨⟨(1 : Int32), (va_up I (x1.toNatClampNeg) I_4), rfl, hf, xHp ht hP⟩, hS.F ht⟩) hS.2.2 dX4_item_32 hlocks
  · have hf := hf.2 c_2
    refine lv_iload hx hb dX4_item_16 (lv_at hl 0 rfl) ?_
    exact W.iret (v := r_1) hx hb hr (fun t ht hW => ⟨⟨r_1, I, rfl, hf, xHp ht hP⟩, hS.F ht⟩) hS.2.2 dX4_item_18 hlocks

def p_X4_weights (M : Int32) (N : Int32) (C : Nat → Nat → Int32) (I : Nat → Nat → Int64) (Ln : Nat → Int32) (Sz : Nat → Int32) (x1 : Int32) (x2 : Int32) (x3 : Int32) (post : Int32 → (Nat → Nat → Int32) → Prop) : Prop := p_X0_placeCount M N (fun r_1 => p_X4_lookAtItems Ln Sz x1 x2 x3 r_1 (fun r_2 => ((r_2 = 1 → (vp_in x1 4 ∧ p_X0_placeCount M N (fun r_5 => p_X1_areWeights (I (x1.toNatClampNeg)) x3 r_5 (fun r_6 => ((r_6 = 0 → post (-2) C) ∧ (¬ r_6 = 0 → p_X0_takeFrom (I (x1.toNatClampNeg)) M N C x3 (fun C_8 => p_X0_total M N C_8 (fun r_9 => post r_9 C_8)))))))) ∧ (¬ r_2 = 1 → post r_2 C))))
theorem in_X4_weights_X4 : ∀ w ∈ u_ws RX4 TX4 6, w ∈ wsX4_weights := by decide +kernel
theorem lk_X4_weights_10 : Cond.fieldLink RX4 10 "GrowingCorners" "grid" "LGrowingCorners$Grid;" ∈ wsX4_weights := by decide +kernel
theorem lk_X4_weights_18 : Cond.fieldLink RX4 18 "GrowingCorners" "sheets" "[LGrowingCorners$Sheet;" ∈ wsX4_weights := by decide +kernel
set_option maxHeartbeats 4000000 in
set_option maxRecDepth 100000 in
theorem c_X4_weights {l : Launch} {D : va_G} {k : Nat → ClassId} (b : Nat → Nat) (ag : Nat → Nat) (as : Nat → Nat) (ap : Nat → Nat) (aq : Nat → Nat) (aa : Nat → Nat) (ab : Nat → Nat) (M : Int32) (N : Int32) (C : Nat → Nat → Int32) (Gr : Nat → Nat → Int32) (Pr : Nat → Nat → Int64) (Pa : Nat → Nat → Int32) (I : Nat → Nat → Int64) (Ln : Nat → Int32) (Sz : Nat → Int32) (dr : Nat → Int32) (pR : Int32) (pP : Int32) (pL : Nat → Int32) (pN : Nat → Nat → Int32) (qR : Int32) (qP : Int32) (qL : Nat → Int32) (qN : Nat → Nat → Int32) (aR : Int32) (aP : Int32) (aL : Nat → Int32) (aN : Nat → Nat → Int32) (bR : Int32) (bP : Int32) (bL : Nat → Int32) (bN : Nat → Nat → Int32) (x1 : Int32) (x2 : Int32) (x3 : Int32) {post : Int32 → (Nat → Nat → Int32) → Prop} (hf : p_X4_weights M N C I Ln Sz x1 x2 x3 post) : ctI l yX4_weights wsX4_weights ({ frames := 3, cells := 0, slots := 0, locals := 67 }) D k [.ref (b 0), .int x1, .int x2, .int x3] (wX k b ag as ap aq aa ab M N C Gr Pr Pa I Ln Sz dr pR pP pL pN qR qP qL qN aR aP aL aN bR bP bL bN) (fun u : (Nat → Nat → Int32) => wX k b ag as ap aq aa ab M N u Gr Pr Pa I Ln Sz dr pR pP pL pN qR qP qL qN aR aP aL aN bR bP bL bN) (fun (r : Int32) (u : (Nat → Nat → Int32)) => post r u) := by
  refine Met.ofW (cc := cX4_weights) (maxL := 6) (ret := (some .int)) (by decide) rfl ?_
  intro p e s m args below meth c s₁ B hml hv
  obtain ⟨rfl, hP, hG, hD0⟩ := hv
  have C0 : xM p s m ([.ref (b 0), .int x1, .int x2, .int x3] : List Value).toArray meth c cX4_weights 6 RX4 (some .int) wsX4_weights := ⟨B.exec, B.bytes, B.returns, atoms_spec (ws := wsX4_weights) B.pre, findClass_of_methodNamed B.named, B.notSynchronized, hml⟩
  obtain ⟨hx, hb, hr, hts, hown, hlocks, hml⟩ := id C0
  have hD := xSelf hD0
  have hS : va_S (xIn (wX k b ag as ap aq aa ab M N C Gr Pr Pa I Ln Sz dr pR pP pL pN qR qP qL qN aR aP aL aN bR bP bL bN)) s.heap s.heap [] := va_S.rf
  generalize xIn (wX k b ag as ap aq aa ab M N C Gr Pr Pa I Ln Sz dr pR pP pL pN qR qP qL qN aR aP aL aN bR bP bL bN) = A at hD hS ⊢
  have hl := lv_entry ([.ref (b 0), .int x1, .int x2, .int x3]) (n := 6) (Nat.le_of_ble_eq_true rfl)
  rw [lg_entry_eq]
  generalize (lg_sl ([.ref (b 0), .int x1, .int x2, .int x3]) ++ List.replicate (6 - (lg_sl ([.ref (b 0), .int x1, .int x2, .int x3])).length) Slot.unset).toArray = ls at hl ⊢
  have hl : lv_has ls 6 [(0, .ref (b 0)), (1, .int x1), (2, .int x2), (3, .int x3)] := hl
  unfold p_X4_weights at hf
  refine lv_aload_n hx hb dX4_weights_0 rfl (lv_at hl 0 rfl) ?_
  refine lv_iload_n hx hb dX4_weights_1 rfl (lv_at hl 1 rfl) ?_
  refine lv_iload_n hx hb dX4_weights_2 rfl (lv_at hl 2 rfl) ?_
  refine lv_iload_n hx hb dX4_weights_3 rfl (lv_at hl 3 rfl) ?_
  refine lv_aload_n hx hb dX4_weights_4 rfl (lv_at hl 0 rfl) ?_
  refine va_get (D := D) (ci := 4) (C := RX4) (T := TX4) (N := 6) hx hb hts in_X4_weights_X4 hown hG.1 hP 0 rfl rfl 0 (by decide) (hts _ lk_X4_weights_10) (fun _ h9 => h9) rfl dX4_weights_5 ?_
  have hp : xPerm (wX k b ag as ap aq aa ab M N C Gr Pr Pa I Ln Sz dr pR pP pL pN qR qP qL qN aR aP aL aN bR bP bL bN) ((wG k ag M N C Gr Pr Pa) ++ ([((b 0, .inr (4, [.ref (ag 0), .ref (b 1), .ref (b 2), .ref (aa 0), .ref (ab 0), .ref (b 3)])) : Nat × va_E)] ++ ([((b 1, .inl (k 5, 4, rfs (fun i => as (2 * i)))) : Nat × va_E)] ++ ([((b 2, .inr (3, [.ref (ap 0), .ref (aq 0)])) : Nat × va_E)] ++ ([((b 3, .inl (k 0, 40, .inl dr)) : Nat × va_E)] ++ (wSS k as I Ln Sz ++ (wT k ap pR pP pL pN ++ (wT k aq qR qP qL qN ++ (wT k aa aR aP aL aN ++ wT k ab bR bP bL bN))))))))) := (xPermC fun _ x => by simp only [wX, wW, List.count_append]; omega)
  refine xCallI (w := wG k ag M N C Gr Pr Pa) (r := [((b 0, .inr (4, [.ref (ag 0), .ref (b 1), .ref (b 2), .ref (aa 0), .ref (ab 0), .ref (b 3)])) : Nat × va_E)] ++ ([((b 1, .inl (k 5, 4, rfs (fun i => as (2 * i)))) : Nat × va_E)] ++ ([((b 2, .inr (3, [.ref (ap 0), .ref (aq 0)])) : Nat × va_E)] ++ ([((b 3, .inl (k 0, 40, .inl dr)) : Nat × va_E)] ++ (wSS k as I Ln Sz ++ (wT k ap pR pP pL pN ++ (wT k aq qR qP qL qN ++ (wT k aa aR aP aL aN ++ wT k ab bR bP bL bN)))))))) (va_runV (As := []) (rest := [.int x3, .int x2, .int x1, .ref (b 0)]) ⟨hx, hb, hml, hown, hts⟩ (c_X0_placeCount ag M N C Gr Pr Pa hf) (cwV 0 hts gX4_weights_X0_placeCount rfl rfl rfl (by decide +kernel) ⟨Nat.le_of_ble_eq_true rfl, Nat.le_of_ble_eq_true rfl⟩) (xPreV hG hP hD hp (ci := 0) rfl (i := 0) rfl) rfl rfl hl.1 rfl (lv_room (Nat.le_of_ble_eq_true rfl)) dX4_weights_8 ⟨Nat.zero_le _, Nat.zero_le _⟩) hP hD hS hp (fun _ => wG_adr) (fun r_1 _ H locs hf hP hD hS => ?_)
  have hP : va_P D vwCl (wX k b ag as ap aq aa ab M N C Gr Pr Pa I Ln Sz dr pR pP pL pN qR qP qL qN aR aP aL aN bR bP bL bN) H := xP_perm (xPermC fun _ x => by simp only [wX, wW, List.count_append]; omega) hP
  have hD : va_D A (wX k b ag as ap aq aa ab M N C Gr Pr Pa I Ln Sz dr pR pP pL pN qR qP qL qN aR aP aL aN bR bP bL bN) := xD_perm (xPermC fun _ x => by simp only [wX, wW, List.count_append]; omega) hD
  have hp : xPerm (wX k b ag as ap aq aa ab M N C Gr Pr Pa I Ln Sz dr pR pP pL pN qR qP qL qN aR aP aL aN bR bP bL bN) ((wX k b ag as ap aq aa ab M N C Gr Pr Pa I Ln Sz dr pR pP pL pN qR qP qL qN aR aP aL aN bR bP bL bN) ++ ([])) := xPermNil
  refine xCallI (w := wX k b ag as ap aq aa ab M N C Gr Pr Pa I Ln Sz dr pR pP pL pN qR qP qL qN aR aP aL aN bR bP bL bN) (r := []) (va_runV (As := [.int x1, .int x2, .int x3, .int r_1]) (rest := []) ⟨hx, hb, hml, hown, hts⟩ (c_X4_lookAtItems b ag as ap aq aa ab M N C Gr Pr Pa I Ln Sz dr pR pP pL pN qR qP qL qN aR aP aL aN bR bP bL bN x1 x2 x3 r_1 hf) (cwV 4 hts gX4_weights_X4_lookAtItems rfl rfl rfl (by decide +kernel) ⟨Nat.le_of_ble_eq_true rfl, Nat.le_of_ble_eq_true rfl⟩) (xPreV hG hP hD hp (ci := 4) rfl (i := 0) rfl) rfl rfl hl.1 rfl (lv_room (Nat.le_of_ble_eq_true rfl)) dX4_weights_11 ⟨Nat.zero_le _, Nat.zero_le _⟩) hP hD hS hp (fun _ => wX_adr) (fun r_2 _ H locs hf hP hD hS => ?_)
  have hP : va_P D vwCl (wX k b ag as ap aq aa ab M N C Gr Pr Pa I Ln Sz dr pR pP pL pN qR qP qL qN aR aP aL aN bR bP bL bN) H := xNilP hP
  have hD : va_D A (wX k b ag as ap aq aa ab M N C Gr Pr Pa I Ln Sz dr pR pP pL pN qR qP qL qN aR aP aL aN bR bP bL bN) := xNilD hD
  refine lv_istore (lv' := [(4, .int r_2), (0, .ref (b 0)), (1, .int x1), (2, .int x2), (3, .int x3)]) hx hb dX4_weights_14 hl (by decide) rfl (fun ls hl => ?_)
  refine lv_iload hx hb dX4_weights_16 (lv_at hl 0 rfl) ?_
  refine lv_iconst (v := 1) hx hb dX4_weights_18 (by decide) ?_
  refine lv_icmp_eq (tgt := 25) hx hb dX4_weights_19 (by decide) (fun c_3 => ?_) (fun c_3 => ?_)
  · have hf := hf.1 c_3
    refine lv_aload_n hx hb dX4_weights_25 rfl (lv_at hl 1 rfl) ?_
    refine va_get (D := D) (ci := 4) (C := RX4) (T := TX4) (N := 6) hx hb hts in_X4_weights_X4 hown hG.1 hP 0 rfl rfl 1 (by decide) (hts _ lk_X4_weights_18) (fun _ h9 => h9) rfl dX4_weights_26 ?_
    refine lv_iload_n hx hb dX4_weights_29 rfl (lv_at hl 2 rfl) ?_
    obtain ⟨h_4, hf⟩ := hf
    refine xAaldO (f := fun i => as (2 * i)) hx hb hG.1 hP 1 5 rfl rfl h_4 dX4_weights_30 ?_
    refine lv_astore (lv' := [(5, .ref (as (2 * x1.toNatClampNeg))), (4, .int r_2), (0, .ref (b 0)), (1, .int x1), (2, .int x2), (3, .int x3)]) hx hb dX4_weights_31 hl (by decide) rfl (fun ls hl => ?_)
    refine lv_aload hx hb dX4_weights_33 (lv_at hl 0 rfl) ?_
    refine lv_iload_n hx hb dX4_weights_35 rfl (lv_at hl 5 rfl) ?_
    refine lv_aload_n hx hb dX4_weights_36 rfl (lv_at hl 2 rfl) ?_
    refine va_get (D := D) (ci := 4) (C := RX4) (T := TX4) (N := 6) hx hb hts in_X4_weights_X4 hown hG.1 hP 0 rfl rfl 0 (by decide) (hts _ lk_X4_weights_10) (fun _ h9 => h9) rfl dX4_weights_37 ?_
    have hp : xPerm (wX k b ag as ap aq aa ab M N C Gr Pr Pa I Ln Sz dr pR pP pL pN qR qP qL qN aR aP aL aN bR bP bL bN) ((wG k ag M N C Gr Pr Pa) ++ ([((b 0, .inr (4, [.ref (ag 0), .ref (b 1), .ref (b 2), .ref (aa 0), .ref (ab 0), .ref (b 3)])) : Nat × va_E)] ++ ([((b 1, .inl (k 5, 4, rfs (fun i => as (2 * i)))) : Nat × va_E)] ++ ([((b 2, .inr (3, [.ref (ap 0), .ref (aq 0)])) : Nat × va_E)] ++ ([((b 3, .inl (k 0, 40, .inl dr)) : Nat × va_E)] ++ (wSS k as I Ln Sz ++ (wT k ap pR pP pL pN ++ (wT k aq qR qP qL qN ++ (wT k aa aR aP aL aN ++ wT k ab bR bP bL bN))))))))) := (xPermC fun _ x => by simp only [wX, wW, List.count_append]; omega)
    refine xCallI (w := wG k ag M N C Gr Pr Pa) (r := [((b 0, .inr (4, [.ref (ag 0), .ref (b 1), .ref (b 2), .ref (aa 0), .ref (ab 0), .ref (b 3)])) : Nat × va_E)] ++ ([((b 1, .inl (k 5, 4, rfs (fun i => as (2 * i)))) : Nat × va_E)] ++ ([((b 2, .inr (3, [.ref (ap 0), .ref (aq 0)])) : Nat × va_E)] ++ ([((b 3, .inl (k 0, 40, .inl dr)) : Nat × va_E)] ++ (wSS k as I Ln Sz ++ (wT k ap pR pP pL pN ++ (wT k aq qR qP qL qN ++ (wT k aa aR aP aL aN ++ wT k ab bR bP bL bN)))))))) (va_runV (As := []) (rest := [.int x3, .ref (as (2 * x1.toNatClampNeg))]) ⟨hx, hb, hml, hown, hts⟩ (c_X0_placeCount ag M N C Gr Pr Pa hf) (cwV 0 hts gX4_weights_X0_placeCount rfl rfl rfl (by decide +kernel) ⟨Nat.le_of_ble_eq_true rfl, Nat.le_of_ble_eq_true rfl⟩) (xPreV hG hP hD hp (ci := 0) rfl (i := 0) rfl) rfl rfl hl.1 rfl (lv_room (Nat.le_of_ble_eq_true rfl)) dX4_weights_40 ⟨Nat.zero_le _, Nat.zero_le _⟩) hP hD hS hp (fun _ => wG_adr) (fun r_5 _ H locs hf hP hD hS => ?_)
    have hP : va_P D vwCl (wX k b ag as ap aq aa ab M N C Gr Pr Pa I Ln Sz dr pR pP pL pN qR qP qL qN aR aP aL aN bR bP bL bN) H := xP_perm (xPermC fun _ x => by simp only [wX, wW, List.count_append]; omega) hP
    have hD : va_D A (wX k b ag as ap aq aa ab M N C Gr Pr Pa I Ln Sz dr pR pP pL pN qR qP qL qN aR aP aL aN bR bP bL bN) := xD_perm (xPermC fun _ x => by simp only [wX, wW, List.count_append]; omega) hD
    have hp : xPerm (wX k b ag as ap aq aa ab M N C Gr Pr Pa I Ln Sz dr pR pP pL pN qR qP qL qN aR aP aL aN bR bP bL bN) ((wS k (fun j => as (2 * x1.toNatClampNeg + j)) (I (x1.toNatClampNeg)) (Ln (x1.toNatClampNeg)) (Sz (x1.toNatClampNeg))) ++ (wSr k as I Ln Sz (x1.toNatClampNeg) ++ ([((b 0, .inr (4, [.ref (ag 0), .ref (b 1), .ref (b 2), .ref (aa 0), .ref (ab 0), .ref (b 3)])) : Nat × va_E)] ++ ([((b 1, .inl (k 5, 4, rfs (fun i => as (2 * i)))) : Nat × va_E)] ++ ([((b 2, .inr (3, [.ref (ap 0), .ref (aq 0)])) : Nat × va_E)] ++ ([((b 3, .inl (k 0, 40, .inl dr)) : Nat × va_E)] ++ (wG k ag M N C Gr Pr Pa ++ (wT k ap pR pP pL pN ++ (wT k aq qR qP qL qN ++ (wT k aa aR aP aL aN ++ wT k ab bR bP bL bN)))))))))) := (xPermC fun _ x => by have h9 := (wSS_cut (k := k) (a := as) (I := I) (Ln := Ln) (Sz := Sz) (vp_lt h_4)).count_eq x; simp only [wX, wW, List.count_append] at h9 ⊢; omega)
    refine xCallI (w := wS k (fun j => as (2 * x1.toNatClampNeg + j)) (I (x1.toNatClampNeg)) (Ln (x1.toNatClampNeg)) (Sz (x1.toNatClampNeg))) (r := wSr k as I Ln Sz (x1.toNatClampNeg) ++ ([((b 0, .inr (4, [.ref (ag 0), .ref (b 1), .ref (b 2), .ref (aa 0), .ref (ab 0), .ref (b 3)])) : Nat × va_E)] ++ ([((b 1, .inl (k 5, 4, rfs (fun i => as (2 * i)))) : Nat × va_E)] ++ ([((b 2, .inr (3, [.ref (ap 0), .ref (aq 0)])) : Nat × va_E)] ++ ([((b 3, .inl (k 0, 40, .inl dr)) : Nat × va_E)] ++ (wG k ag M N C Gr Pr Pa ++ (wT k ap pR pP pL pN ++ (wT k aq qR qP qL qN ++ (wT k aa aR aP aL aN ++ wT k ab bR bP bL bN))))))))) (va_runV (As := [.int x3, .int r_5]) (rest := []) ⟨hx, hb, hml, hown, hts⟩ (c_X1_areWeights (fun j => as (2 * x1.toNatClampNeg + j)) (I (x1.toNatClampNeg)) (Ln (x1.toNatClampNeg)) (Sz (x1.toNatClampNeg)) x3 r_5 hf) (cwV 2 hts gX4_weights_X1_areWeights rfl rfl rfl (by decide +kernel) ⟨Nat.le_of_ble_eq_true rfl, Nat.le_of_ble_eq_true rfl⟩) (xPreV hG hP hD hp (ci := 1) rfl (i := 0) rfl) rfl rfl hl.1 rfl (lv_room (Nat.le_of_ble_eq_true rfl)) dX4_weights_43 ⟨Nat.zero_le _, Nat.zero_le _⟩) hP hD hS hp (fun _ => rfl) (fun r_6 _ H locs hf hP hD hS => ?_)
    have hP : va_P D vwCl (wX k b ag as ap aq aa ab M N C Gr Pr Pa I Ln Sz dr pR pP pL pN qR qP qL qN aR aP aL aN bR bP bL bN) H := xP_perm (xPermC fun _ x => by have h9 := (wSS_put (k := k) (a := as) (I := I) (Ln := Ln) (Sz := Sz) (I2 := I) (Ln2 := Ln) (Sz2 := Sz) (Iv := (I (x1.toNatClampNeg))) (Lv := (Ln (x1.toNatClampNeg))) (Sv := (Sz (x1.toNatClampNeg))) (vp_lt h_4) rfl (fun _ _ => rfl) rfl (fun _ _ => rfl) rfl (fun _ _ => rfl)).count_eq x; simp only [wX, wW, List.count_append] at h9 ⊢; omega) hP
    have hD : va_D A (wX k b ag as ap aq aa ab M N C Gr Pr Pa I Ln Sz dr pR pP pL pN qR qP qL qN aR aP aL aN bR bP bL bN) := xD_perm (xPermC fun _ x => by have h9 := (wSS_put (k := k) (a := as) (I := I) (Ln := Ln) (Sz := Sz) (I2 := I) (Ln2 := Ln) (Sz2 := Sz) (Iv := (I (x1.toNatClampNeg))) (Lv := (Ln (x1.toNatClampNeg))) (Sv := (Sz (x1.toNatClampNeg))) (vp_lt h_4) rfl (fun _ _ => rfl) rfl (fun _ _ => rfl) rfl (fun _ _ => rfl)).count_eq x; simp only [wX, wW, List.count_append] at h9 ⊢; omega) hD
    refine lv_if_ne (tgt := 52) hx hb dX4_weights_46 (by decide) (fun c_7 => ?_) (fun c_7 => ?_)
    · have hf := hf.2 c_7
      refine lv_aload_n hx hb dX4_weights_52 rfl (lv_at hl 2 rfl) ?_
      refine va_get (D := D) (ci := 4) (C := RX4) (T := TX4) (N := 6) hx hb hts in_X4_weights_X4 hown hG.1 hP 0 rfl rfl 0 (by decide) (hts _ lk_X4_weights_10) (fun _ h9 => h9) rfl dX4_weights_53 ?_
      refine lv_aload hx hb dX4_weights_56 (lv_at hl 0 rfl) ?_
      refine lv_iload_n hx hb dX4_weights_58 rfl (lv_at hl 5 rfl) ?_
      have hp : xPerm (wX k b ag as ap aq aa ab M N C Gr Pr Pa I Ln Sz dr pR pP pL pN qR qP qL qN aR aP aL aN bR bP bL bN) ((wS k (fun j => as (2 * x1.toNatClampNeg + j)) (I (x1.toNatClampNeg)) (Ln (x1.toNatClampNeg)) (Sz (x1.toNatClampNeg)) ++ wG k ag M N C Gr Pr Pa) ++ (wSr k as I Ln Sz (x1.toNatClampNeg) ++ ([((b 0, .inr (4, [.ref (ag 0), .ref (b 1), .ref (b 2), .ref (aa 0), .ref (ab 0), .ref (b 3)])) : Nat × va_E)] ++ ([((b 1, .inl (k 5, 4, rfs (fun i => as (2 * i)))) : Nat × va_E)] ++ ([((b 2, .inr (3, [.ref (ap 0), .ref (aq 0)])) : Nat × va_E)] ++ ([((b 3, .inl (k 0, 40, .inl dr)) : Nat × va_E)] ++ (wT k ap pR pP pL pN ++ (wT k aq qR qP qL qN ++ (wT k aa aR aP aL aN ++ wT k ab bR bP bL bN))))))))) := (xPermC fun _ x => by have h9 := (wSS_cut (k := k) (a := as) (I := I) (Ln := Ln) (Sz := Sz) (vp_lt h_4)).count_eq x; simp only [wX, wW, List.count_append] at h9 ⊢; omega)
      refine xCallV (w := wS k (fun j => as (2 * x1.toNatClampNeg + j)) (I (x1.toNatClampNeg)) (Ln (x1.toNatClampNeg)) (Sz (x1.toNatClampNeg)) ++ wG k ag M N C Gr Pr Pa) (r := wSr k as I Ln Sz (x1.toNatClampNeg) ++ ([((b 0, .inr (4, [.ref (ag 0), .ref (b 1), .ref (b 2), .ref (aa 0), .ref (ab 0), .ref (b 3)])) : Nat × va_E)] ++ ([((b 1, .inl (k 5, 4, rfs (fun i => as (2 * i)))) : Nat × va_E)] ++ ([((b 2, .inr (3, [.ref (ap 0), .ref (aq 0)])) : Nat × va_E)] ++ ([((b 3, .inl (k 0, 40, .inl dr)) : Nat × va_E)] ++ (wT k ap pR pP pL pN ++ (wT k aq qR qP qL qN ++ (wT k aa aR aP aL aN ++ wT k ab bR bP bL bN)))))))) (va_runV (As := [.ref (as (2 * x1.toNatClampNeg)), .int x3]) (rest := []) ⟨hx, hb, hml, hown, hts⟩ (c_X0_takeFrom (fun j => as (2 * x1.toNatClampNeg + j)) ag (I (x1.toNatClampNeg)) (Ln (x1.toNatClampNeg)) (Sz (x1.toNatClampNeg)) M N C Gr Pr Pa x3 hf) (cwV 2 hts gX4_weights_X0_takeFrom rfl rfl rfl (by decide +kernel) ⟨Nat.le_of_ble_eq_true rfl, Nat.le_of_ble_eq_true rfl⟩) (xPreV hG hP hD hp (ci := 0) rfl (i := 2) rfl) rfl rfl hl.1 rfl (lv_room (Nat.le_of_ble_eq_true rfl)) dX4_weights_59 ⟨Nat.zero_le _, Nat.zero_le _⟩) hP hD hS hp (fun _ => xAdr2 rfl wG_adr) (fun C_8 H locs hf hP hD hS => ?_)
      have hP : va_P D vwCl (wX k b ag as ap aq aa ab M N C_8 Gr Pr Pa I Ln Sz dr pR pP pL pN qR qP qL qN aR aP aL aN bR bP bL bN) H := xP_perm (xPermC fun _ x => by have h9 := (wSS_put (k := k) (a := as) (I := I) (Ln := Ln) (Sz := Sz) (I2 := I) (Ln2 := Ln) (Sz2 := Sz) (Iv := (I (x1.toNatClampNeg))) (Lv := (Ln (x1.toNatClampNeg))) (Sv := (Sz (x1.toNatClampNeg))) (vp_lt h_4) rfl (fun _ _ => rfl) rfl (fun _ _ => rfl) rfl (fun _ _ => rfl)).count_eq x; simp only [wX, wW, List.count_append] at h9 ⊢; omega) hP
      have hD : va_D A (wX k b ag as ap aq aa ab M N C_8 Gr Pr Pa I Ln Sz dr pR pP pL pN qR qP qL qN aR aP aL aN bR bP bL bN) := xD_perm (xPermC fun _ x => by have h9 := (wSS_put (k := k) (a := as) (I := I) (Ln := Ln) (Sz := Sz) (I2 := I) (Ln2 := Ln) (Sz2 := Sz) (Iv := (I (x1.toNatClampNeg))) (Lv := (Ln (x1.toNatClampNeg))) (Sv := (Sz (x1.toNatClampNeg))) (vp_lt h_4) rfl (fun _ _ => rfl) rfl (fun _ _ => rfl) rfl (fun _ _ => rfl)).count_eq x; simp only [wX, wW, List.count_append] at h9 ⊢; omega) hD
      refine lv_aload_n hx hb dX4_weights_62 rfl (lv_at hl 2 rfl) ?_
      refine va_get (D := D) (ci := 4) (C := RX4) (T := TX4) (N := 6) hx hb hts in_X4_weights_X4 hown hG.1 hP 0 rfl rfl 0 (by decide) (hts _ lk_X4_weights_10) (fun _ h9 => h9) rfl dX4_weights_63 ?_
      have hp : xPerm (wX k b ag as ap aq aa ab M N C_8 Gr Pr Pa I Ln Sz dr pR pP pL pN qR qP qL qN aR aP aL aN bR bP bL bN) ((wG k ag M N C_8 Gr Pr Pa) ++ ([((b 0, .inr (4, [.ref (ag 0), .ref (b 1), .ref (b 2), .ref (aa 0), .ref (ab 0), .ref (b 3)])) : Nat × va_E)] ++ ([((b 1, .inl (k 5, 4, rfs (fun i => as (2 * i)))) : Nat × va_E)] ++ ([((b 2, .inr (3, [.ref (ap 0), .ref (aq 0)])) : Nat × va_E)] ++ ([((b 3, .inl (k 0, 40, .inl dr)) : Nat × va_E)] ++ (wSS k as I Ln Sz ++ (wT k ap pR pP pL pN ++ (wT k aq qR qP qL qN ++ (wT k aa aR aP aL aN ++ wT k ab bR bP bL bN))))))))) := (xPermC fun _ x => by simp only [wX, wW, List.count_append]; omega)
      refine xCallI (w := wG k ag M N C_8 Gr Pr Pa) (r := [((b 0, .inr (4, [.ref (ag 0), .ref (b 1), .ref (b 2), .ref (aa 0), .ref (ab 0), .ref (b 3)])) : Nat × va_E)] ++ ([((b 1, .inl (k 5, 4, rfs (fun i => as (2 * i)))) : Nat × va_E)] ++ ([((b 2, .inr (3, [.ref (ap 0), .ref (aq 0)])) : Nat × va_E)] ++ ([((b 3, .inl (k 0, 40, .inl dr)) : Nat × va_E)] ++ (wSS k as I Ln Sz ++ (wT k ap pR pP pL pN ++ (wT k aq qR qP qL qN ++ (wT k aa aR aP aL aN ++ wT k ab bR bP bL bN)))))))) (va_runV (As := []) (rest := []) ⟨hx, hb, hml, hown, hts⟩ (c_X0_total ag M N C_8 Gr Pr Pa hf) (cwV 0 hts gX4_weights_X0_total rfl rfl rfl (by decide +kernel) ⟨Nat.le_of_ble_eq_true rfl, Nat.le_of_ble_eq_true rfl⟩) (xPreV hG hP hD hp (ci := 0) rfl (i := 0) rfl) rfl rfl hl.1 rfl (lv_room (Nat.le_of_ble_eq_true rfl)) dX4_weights_66 ⟨Nat.zero_le _, Nat.zero_le _⟩) hP hD hS hp (fun _ => wG_adr) (fun r_9 _ H locs hf hP hD hS => ?_)
      have hP : va_P D vwCl (wX k b ag as ap aq aa ab M N C_8 Gr Pr Pa I Ln Sz dr pR pP pL pN qR qP qL qN aR aP aL aN bR bP bL bN) H := xP_perm (xPermC fun _ x => by simp only [wX, wW, List.count_append]; omega) hP
      have hD : va_D A (wX k b ag as ap aq aa ab M N C_8 Gr Pr Pa I Ln Sz dr pR pP pL pN qR qP qL qN aR aP aL aN bR bP bL bN) := xD_perm (xPermC fun _ x => by simp only [wX, wW, List.count_append]; omega) hD
      exact W.iret (v := r_9) hx hb hr (fun t ht hW => ⟨⟨r_9, C_8, rfl, hf, xHp ht hP⟩, hS.F ht⟩) hS.2.2 dX4_weights_69 hlocks
    · have hf := hf.1 c_7
      refine lv_bipush (v := (-2)) hx hb dX4_weights_49 (by decide) ?_
      exact W.iret (v := (-2)) hx hb hr (fun t ht hW => ⟨⟨((-2) : Int32), C, rfl, hf, xHp ht hP⟩, hS.F ht⟩) hS.2.2 dX4_weights_51 hlocks
  · have hf := hf.2 c_3
    refine lv_iload hx hb dX4_weights_22 (lv_at hl 0 rfl) ?_
    exact W.iret (v := r_2) hx hb hr (fun t ht hW => ⟨⟨r_2, C, rfl, hf, xHp ht hP⟩, hS.F ht⟩) hS.2.2 dX4_weights_24 hlocks

def p_X4_turn (M : Int32) (N : Int32) (C : Nat → Nat → Int32) (post : Int32 → Int32 → Int32 → (Nat → Nat → Int32) → Prop) : Prop := p_X0_transpose M N C (fun M_1 N_2 C_3 => post 1 M_1 N_2 C_3)
theorem in_X4_turn_X4 : ∀ w ∈ u_ws RX4 TX4 6, w ∈ wsX4_turn := by decide +kernel
theorem lk_X4_turn_10 : Cond.fieldLink RX4 10 "GrowingCorners" "grid" "LGrowingCorners$Grid;" ∈ wsX4_turn := by decide +kernel
set_option maxHeartbeats 4000000 in
set_option maxRecDepth 100000 in
theorem c_X4_turn {l : Launch} {D : va_G} {k : Nat → ClassId} (b : Nat → Nat) (ag : Nat → Nat) (as : Nat → Nat) (ap : Nat → Nat) (aq : Nat → Nat) (aa : Nat → Nat) (ab : Nat → Nat) (M : Int32) (N : Int32) (C : Nat → Nat → Int32) (Gr : Nat → Nat → Int32) (Pr : Nat → Nat → Int64) (Pa : Nat → Nat → Int32) (I : Nat → Nat → Int64) (Ln : Nat → Int32) (Sz : Nat → Int32) (dr : Nat → Int32) (pR : Int32) (pP : Int32) (pL : Nat → Int32) (pN : Nat → Nat → Int32) (qR : Int32) (qP : Int32) (qL : Nat → Int32) (qN : Nat → Nat → Int32) (aR : Int32) (aP : Int32) (aL : Nat → Int32) (aN : Nat → Nat → Int32) (bR : Int32) (bP : Int32) (bL : Nat → Int32) (bN : Nat → Nat → Int32) {post : Int32 → Int32 → Int32 → (Nat → Nat → Int32) → Prop} (hf : p_X4_turn M N C post) : ctI l yX4_turn wsX4_turn ({ frames := 1, cells := 0, slots := 0, locals := 23 }) D k [.ref (b 0)] (wX k b ag as ap aq aa ab M N C Gr Pr Pa I Ln Sz dr pR pP pL pN qR qP qL qN aR aP aL aN bR bP bL bN) (fun u : Int32 × Int32 × (Nat → Nat → Int32) => wX k b ag as ap aq aa ab (u.1) (u.2.1) (u.2.2) Gr Pr Pa I Ln Sz dr pR pP pL pN qR qP qL qN aR aP aL aN bR bP bL bN) (fun (r : Int32) (u : Int32 × Int32 × (Nat → Nat → Int32)) => post r u.1 u.2.1 u.2.2) := by
  refine Met.ofW (cc := cX4_turn) (maxL := 1) (ret := (some .int)) (by decide) rfl ?_
  intro p e s m args below meth c s₁ B hml hv
  obtain ⟨rfl, hP, hG, hD0⟩ := hv
  have C0 : xM p s m ([.ref (b 0)] : List Value).toArray meth c cX4_turn 1 RX4 (some .int) wsX4_turn := ⟨B.exec, B.bytes, B.returns, atoms_spec (ws := wsX4_turn) B.pre, findClass_of_methodNamed B.named, B.notSynchronized, hml⟩
  obtain ⟨hx, hb, hr, hts, hown, hlocks, hml⟩ := id C0
  have hD := xSelf hD0
  have hS : va_S (xIn (wX k b ag as ap aq aa ab M N C Gr Pr Pa I Ln Sz dr pR pP pL pN qR qP qL qN aR aP aL aN bR bP bL bN)) s.heap s.heap [] := va_S.rf
  generalize xIn (wX k b ag as ap aq aa ab M N C Gr Pr Pa I Ln Sz dr pR pP pL pN qR qP qL qN aR aP aL aN bR bP bL bN) = A at hD hS ⊢
  have hl := lv_entry ([.ref (b 0)]) (n := 1) (Nat.le_of_ble_eq_true rfl)
  rw [lg_entry_eq]
  generalize (lg_sl ([.ref (b 0)]) ++ List.replicate (1 - (lg_sl ([.ref (b 0)])).length) Slot.unset).toArray = ls at hl ⊢
  have hl : lv_has ls 1 [(0, .ref (b 0))] := hl
  unfold p_X4_turn at hf
  refine lv_aload_n hx hb dX4_turn_0 rfl (lv_at hl 0 rfl) ?_
  refine va_get (D := D) (ci := 4) (C := RX4) (T := TX4) (N := 6) hx hb hts in_X4_turn_X4 hown hG.1 hP 0 rfl rfl 0 (by decide) (hts _ lk_X4_turn_10) (fun _ h9 => h9) rfl dX4_turn_1 ?_
  have hp : xPerm (wX k b ag as ap aq aa ab M N C Gr Pr Pa I Ln Sz dr pR pP pL pN qR qP qL qN aR aP aL aN bR bP bL bN) ((wG k ag M N C Gr Pr Pa) ++ ([((b 0, .inr (4, [.ref (ag 0), .ref (b 1), .ref (b 2), .ref (aa 0), .ref (ab 0), .ref (b 3)])) : Nat × va_E)] ++ ([((b 1, .inl (k 5, 4, rfs (fun i => as (2 * i)))) : Nat × va_E)] ++ ([((b 2, .inr (3, [.ref (ap 0), .ref (aq 0)])) : Nat × va_E)] ++ ([((b 3, .inl (k 0, 40, .inl dr)) : Nat × va_E)] ++ (wSS k as I Ln Sz ++ (wT k ap pR pP pL pN ++ (wT k aq qR qP qL qN ++ (wT k aa aR aP aL aN ++ wT k ab bR bP bL bN))))))))) := (xPermC fun _ x => by simp only [wX, wW, List.count_append]; omega)
  refine xCallV (w := wG k ag M N C Gr Pr Pa) (r := [((b 0, .inr (4, [.ref (ag 0), .ref (b 1), .ref (b 2), .ref (aa 0), .ref (ab 0), .ref (b 3)])) : Nat × va_E)] ++ ([((b 1, .inl (k 5, 4, rfs (fun i => as (2 * i)))) : Nat × va_E)] ++ ([((b 2, .inr (3, [.ref (ap 0), .ref (aq 0)])) : Nat × va_E)] ++ ([((b 3, .inl (k 0, 40, .inl dr)) : Nat × va_E)] ++ (wSS k as I Ln Sz ++ (wT k ap pR pP pL pN ++ (wT k aq qR qP qL qN ++ (wT k aa aR aP aL aN ++ wT k ab bR bP bL bN)))))))) (va_runV (As := []) (rest := []) ⟨hx, hb, hml, hown, hts⟩ (c_X0_transpose ag M N C Gr Pr Pa hf) (cwV 0 hts gX4_turn_X0_transpose rfl rfl rfl (by decide +kernel) ⟨Nat.le_of_ble_eq_true rfl, Nat.le_of_ble_eq_true rfl⟩) (xPreV hG hP hD hp (ci := 0) rfl (i := 0) rfl) rfl rfl hl.1 rfl (lv_room (Nat.le_of_ble_eq_true rfl)) dX4_turn_4 ⟨Nat.zero_le _, Nat.zero_le _⟩) hP hD hS hp (fun _ => wG_adr) (fun u H locs hf hP hD hS => ?_)
  obtain ⟨M_1, N_2, C_3⟩ := u
  have hP : va_P D vwCl (wX k b ag as ap aq aa ab M_1 N_2 C_3 Gr Pr Pa I Ln Sz dr pR pP pL pN qR qP qL qN aR aP aL aN bR bP bL bN) H := xP_perm (xPermC fun _ x => by simp only [wX, wW, List.count_append]; omega) hP
  have hD : va_D A (wX k b ag as ap aq aa ab M_1 N_2 C_3 Gr Pr Pa I Ln Sz dr pR pP pL pN qR qP qL qN aR aP aL aN bR bP bL bN) := xD_perm (xPermC fun _ x => by simp only [wX, wW, List.count_append]; omega) hD
  refine lv_iconst (v := 1) hx hb dX4_turn_7 (by decide) ?_
  exact W.iret (v := 1) hx hb hr (fun t ht hW => ⟨⟨(1 : Int32), (M_1, N_2, C_3), rfl, hf, xHp ht hP⟩, hS.F ht⟩) hS.2.2 dX4_turn_8 hlocks

def p_X4_best (M : Int32) (N : Int32) (C : Nat → Nat → Int32) (Gr : Nat → Nat → Int32) (x1 : Int32) (x2 : Int32) (post : Int32 → (Nat → Nat → Int32) → Prop) : Prop := p_X0_hasPlace M N x1 x2 (fun r_1 => ((r_1 = 0 → post (-1) Gr) ∧ (¬ r_1 = 0 → p_X0_heaviest C Gr 0 0 x1 x2 (fun r_4 Gr_3 => post r_4 Gr_3))))
theorem in_X4_best_X4 : ∀ w ∈ u_ws RX4 TX4 6, w ∈ wsX4_best := by decide +kernel
theorem lk_X4_best_10 : Cond.fieldLink RX4 10 "GrowingCorners" "grid" "LGrowingCorners$Grid;" ∈ wsX4_best := by decide +kernel
set_option maxHeartbeats 4000000 in
set_option maxRecDepth 100000 in
theorem c_X4_best {l : Launch} {D : va_G} {k : Nat → ClassId} (b : Nat → Nat) (ag : Nat → Nat) (as : Nat → Nat) (ap : Nat → Nat) (aq : Nat → Nat) (aa : Nat → Nat) (ab : Nat → Nat) (M : Int32) (N : Int32) (C : Nat → Nat → Int32) (Gr : Nat → Nat → Int32) (Pr : Nat → Nat → Int64) (Pa : Nat → Nat → Int32) (I : Nat → Nat → Int64) (Ln : Nat → Int32) (Sz : Nat → Int32) (dr : Nat → Int32) (pR : Int32) (pP : Int32) (pL : Nat → Int32) (pN : Nat → Nat → Int32) (qR : Int32) (qP : Int32) (qL : Nat → Int32) (qN : Nat → Nat → Int32) (aR : Int32) (aP : Int32) (aL : Nat → Int32) (aN : Nat → Nat → Int32) (bR : Int32) (bP : Int32) (bL : Nat → Int32) (bN : Nat → Nat → Int32) (x1 : Int32) (x2 : Int32) {post : Int32 → (Nat → Nat → Int32) → Prop} (hf : p_X4_best M N C Gr x1 x2 post) : ctI l yX4_best wsX4_best ({ frames := 2, cells := 0, slots := 0, locals := 52 }) D k [.ref (b 0), .int x1, .int x2] (wX k b ag as ap aq aa ab M N C Gr Pr Pa I Ln Sz dr pR pP pL pN qR qP qL qN aR aP aL aN bR bP bL bN) (fun u : (Nat → Nat → Int32) => wX k b ag as ap aq aa ab M N C u Pr Pa I Ln Sz dr pR pP pL pN qR qP qL qN aR aP aL aN bR bP bL bN) (fun (r : Int32) (u : (Nat → Nat → Int32)) => post r u) := by
  refine Met.ofW (cc := cX4_best) (maxL := 3) (ret := (some .int)) (by decide) rfl ?_
  intro p e s m args below meth c s₁ B hml hv
  obtain ⟨rfl, hP, hG, hD0⟩ := hv
  have C0 : xM p s m ([.ref (b 0), .int x1, .int x2] : List Value).toArray meth c cX4_best 3 RX4 (some .int) wsX4_best := ⟨B.exec, B.bytes, B.returns, atoms_spec (ws := wsX4_best) B.pre, findClass_of_methodNamed B.named, B.notSynchronized, hml⟩
  obtain ⟨hx, hb, hr, hts, hown, hlocks, hml⟩ := id C0
  have hD := xSelf hD0
  have hS : va_S (xIn (wX k b ag as ap aq aa ab M N C Gr Pr Pa I Ln Sz dr pR pP pL pN qR qP qL qN aR aP aL aN bR bP bL bN)) s.heap s.heap [] := va_S.rf
  generalize xIn (wX k b ag as ap aq aa ab M N C Gr Pr Pa I Ln Sz dr pR pP pL pN qR qP qL qN aR aP aL aN bR bP bL bN) = A at hD hS ⊢
  have hl := lv_entry ([.ref (b 0), .int x1, .int x2]) (n := 3) (Nat.le_of_ble_eq_true rfl)
  rw [lg_entry_eq]
  generalize (lg_sl ([.ref (b 0), .int x1, .int x2]) ++ List.replicate (3 - (lg_sl ([.ref (b 0), .int x1, .int x2])).length) Slot.unset).toArray = ls at hl ⊢
  have hl : lv_has ls 3 [(0, .ref (b 0)), (1, .int x1), (2, .int x2)] := hl
  unfold p_X4_best at hf
  refine lv_aload_n hx hb dX4_best_0 rfl (lv_at hl 0 rfl) ?_
  refine va_get (D := D) (ci := 4) (C := RX4) (T := TX4) (N := 6) hx hb hts in_X4_best_X4 hown hG.1 hP 0 rfl rfl 0 (by decide) (hts _ lk_X4_best_10) (fun _ h9 => h9) rfl dX4_best_1 ?_
  refine lv_iload_n hx hb dX4_best_4 rfl (lv_at hl 1 rfl) ?_
  refine lv_iload_n hx hb dX4_best_5 rfl (lv_at hl 2 rfl) ?_
  have hp : xPerm (wX k b ag as ap aq aa ab M N C Gr Pr Pa I Ln Sz dr pR pP pL pN qR qP qL qN aR aP aL aN bR bP bL bN) ((wG k ag M N C Gr Pr Pa) ++ ([((b 0, .inr (4, [.ref (ag 0), .ref (b 1), .ref (b 2), .ref (aa 0), .ref (ab 0), .ref (b 3)])) : Nat × va_E)] ++ ([((b 1, .inl (k 5, 4, rfs (fun i => as (2 * i)))) : Nat × va_E)] ++ ([((b 2, .inr (3, [.ref (ap 0), .ref (aq 0)])) : Nat × va_E)] ++ ([((b 3, .inl (k 0, 40, .inl dr)) : Nat × va_E)] ++ (wSS k as I Ln Sz ++ (wT k ap pR pP pL pN ++ (wT k aq qR qP qL qN ++ (wT k aa aR aP aL aN ++ wT k ab bR bP bL bN))))))))) := (xPermC fun _ x => by simp only [wX, wW, List.count_append]; omega)
  refine xCallI (w := wG k ag M N C Gr Pr Pa) (r := [((b 0, .inr (4, [.ref (ag 0), .ref (b 1), .ref (b 2), .ref (aa 0), .ref (ab 0), .ref (b 3)])) : Nat × va_E)] ++ ([((b 1, .inl (k 5, 4, rfs (fun i => as (2 * i)))) : Nat × va_E)] ++ ([((b 2, .inr (3, [.ref (ap 0), .ref (aq 0)])) : Nat × va_E)] ++ ([((b 3, .inl (k 0, 40, .inl dr)) : Nat × va_E)] ++ (wSS k as I Ln Sz ++ (wT k ap pR pP pL pN ++ (wT k aq qR qP qL qN ++ (wT k aa aR aP aL aN ++ wT k ab bR bP bL bN)))))))) (va_runV (As := [.int x1, .int x2]) (rest := []) ⟨hx, hb, hml, hown, hts⟩ (c_X0_hasPlace ag M N C Gr Pr Pa x1 x2 hf) (cwV 2 hts gX4_best_X0_hasPlace rfl rfl rfl (by decide +kernel) ⟨Nat.le_of_ble_eq_true rfl, Nat.le_of_ble_eq_true rfl⟩) (xPreV hG hP hD hp (ci := 0) rfl (i := 0) rfl) rfl rfl hl.1 rfl (lv_room (Nat.le_of_ble_eq_true rfl)) dX4_best_6 ⟨Nat.zero_le _, Nat.zero_le _⟩) hP hD hS hp (fun _ => wG_adr) (fun r_1 _ H locs hf hP hD hS => ?_)
  have hP : va_P D vwCl (wX k b ag as ap aq aa ab M N C Gr Pr Pa I Ln Sz dr pR pP pL pN qR qP qL qN aR aP aL aN bR bP bL bN) H := xP_perm (xPermC fun _ x => by simp only [wX, wW, List.count_append]; omega) hP
  have hD : va_D A (wX k b ag as ap aq aa ab M N C Gr Pr Pa I Ln Sz dr pR pP pL pN qR qP qL qN aR aP aL aN bR bP bL bN) := xD_perm (xPermC fun _ x => by simp only [wX, wW, List.count_append]; omega) hD
  refine lv_if_ne (tgt := 14) hx hb dX4_best_9 (by decide) (fun c_2 => ?_) (fun c_2 => ?_)
  · have hf := hf.2 c_2
    refine lv_aload_n hx hb dX4_best_14 rfl (lv_at hl 0 rfl) ?_
    refine va_get (D := D) (ci := 4) (C := RX4) (T := TX4) (N := 6) hx hb hts in_X4_best_X4 hown hG.1 hP 0 rfl rfl 0 (by decide) (hts _ lk_X4_best_10) (fun _ h9 => h9) rfl dX4_best_15 ?_
    refine lv_iconst (v := 0) hx hb dX4_best_18 (by decide) ?_
    refine lv_iconst (v := 0) hx hb dX4_best_19 (by decide) ?_
    refine lv_iload_n hx hb dX4_best_20 rfl (lv_at hl 1 rfl) ?_
    refine lv_iload_n hx hb dX4_best_21 rfl (lv_at hl 2 rfl) ?_
    have hp : xPerm (wX k b ag as ap aq aa ab M N C Gr Pr Pa I Ln Sz dr pR pP pL pN qR qP qL qN aR aP aL aN bR bP bL bN) ((wG k ag M N C Gr Pr Pa) ++ ([((b 0, .inr (4, [.ref (ag 0), .ref (b 1), .ref (b 2), .ref (aa 0), .ref (ab 0), .ref (b 3)])) : Nat × va_E)] ++ ([((b 1, .inl (k 5, 4, rfs (fun i => as (2 * i)))) : Nat × va_E)] ++ ([((b 2, .inr (3, [.ref (ap 0), .ref (aq 0)])) : Nat × va_E)] ++ ([((b 3, .inl (k 0, 40, .inl dr)) : Nat × va_E)] ++ (wSS k as I Ln Sz ++ (wT k ap pR pP pL pN ++ (wT k aq qR qP qL qN ++ (wT k aa aR aP aL aN ++ wT k ab bR bP bL bN))))))))) := (xPermC fun _ x => by simp only [wX, wW, List.count_append]; omega)
    refine xCallI (w := wG k ag M N C Gr Pr Pa) (r := [((b 0, .inr (4, [.ref (ag 0), .ref (b 1), .ref (b 2), .ref (aa 0), .ref (ab 0), .ref (b 3)])) : Nat × va_E)] ++ ([((b 1, .inl (k 5, 4, rfs (fun i => as (2 * i)))) : Nat × va_E)] ++ ([((b 2, .inr (3, [.ref (ap 0), .ref (aq 0)])) : Nat × va_E)] ++ ([((b 3, .inl (k 0, 40, .inl dr)) : Nat × va_E)] ++ (wSS k as I Ln Sz ++ (wT k ap pR pP pL pN ++ (wT k aq qR qP qL qN ++ (wT k aa aR aP aL aN ++ wT k ab bR bP bL bN)))))))) (va_runV (As := [.int 0, .int 0, .int x1, .int x2]) (rest := []) ⟨hx, hb, hml, hown, hts⟩ (c_X0_heaviest ag M N C Gr Pr Pa 0 0 x1 x2 hf) (cwV 4 hts gX4_best_X0_heaviest rfl rfl rfl (by decide +kernel) ⟨Nat.le_of_ble_eq_true rfl, Nat.le_of_ble_eq_true rfl⟩) (xPreV hG hP hD hp (ci := 0) rfl (i := 0) rfl) rfl rfl hl.1 rfl (lv_room (Nat.le_of_ble_eq_true rfl)) dX4_best_22 ⟨Nat.zero_le _, Nat.zero_le _⟩) hP hD hS hp (fun _ => wG_adr) (fun r_4 Gr_3 H locs hf hP hD hS => ?_)
    have hP : va_P D vwCl (wX k b ag as ap aq aa ab M N C Gr_3 Pr Pa I Ln Sz dr pR pP pL pN qR qP qL qN aR aP aL aN bR bP bL bN) H := xP_perm (xPermC fun _ x => by simp only [wX, wW, List.count_append]; omega) hP
    have hD : va_D A (wX k b ag as ap aq aa ab M N C Gr_3 Pr Pa I Ln Sz dr pR pP pL pN qR qP qL qN aR aP aL aN bR bP bL bN) := xD_perm (xPermC fun _ x => by simp only [wX, wW, List.count_append]; omega) hD
    exact W.iret (v := r_4) hx hb hr (fun t ht hW => ⟨⟨r_4, Gr_3, rfl, hf, xHp ht hP⟩, hS.F ht⟩) hS.2.2 dX4_best_25 hlocks
  · have hf := hf.1 c_2
    refine lv_iconst (v := (-1)) hx hb dX4_best_12 (by decide) ?_
    exact W.iret (v := (-1)) hx hb hr (fun t ht hW => ⟨⟨((-1) : Int32), Gr, rfl, hf, xHp ht hP⟩, hS.F ht⟩) hS.2.2 dX4_best_13 hlocks

def p_X4_between (M : Int32) (N : Int32) (C : Nat → Nat → Int32) (Gr : Nat → Nat → Int32) (x1 : Int32) (x2 : Int32) (x3 : Int32) (x4 : Int32) (post : Int32 → (Nat → Nat → Int32) → Prop) : Prop := p_X0_hasPlace M N x1 x2 (fun r_1 => ((r_1 = 0 → post (-1) Gr) ∧ (¬ r_1 = 0 → p_X0_hasPlace M N x3 x4 (fun r_3 => ((r_3 = 0 → post (-1) Gr) ∧ (¬ r_3 = 0 → ((x3 < x1 → post (-4) Gr) ∧ (¬ x3 < x1 → ((x2 ≤ x4 → p_X0_heaviest C Gr x1 x2 x3 x4 (fun r_8 Gr_7 => post r_8 Gr_7)) ∧ (¬ x2 ≤ x4 → post (-4) Gr))))))))))
theorem in_X4_between_X4 : ∀ w ∈ u_ws RX4 TX4 6, w ∈ wsX4_between := by decide +kernel
theorem lk_X4_between_10 : Cond.fieldLink RX4 10 "GrowingCorners" "grid" "LGrowingCorners$Grid;" ∈ wsX4_between := by decide +kernel
set_option maxHeartbeats 4000000 in
set_option maxRecDepth 100000 in
theorem c_X4_between {l : Launch} {D : va_G} {k : Nat → ClassId} (b : Nat → Nat) (ag : Nat → Nat) (as : Nat → Nat) (ap : Nat → Nat) (aq : Nat → Nat) (aa : Nat → Nat) (ab : Nat → Nat) (M : Int32) (N : Int32) (C : Nat → Nat → Int32) (Gr : Nat → Nat → Int32) (Pr : Nat → Nat → Int64) (Pa : Nat → Nat → Int32) (I : Nat → Nat → Int64) (Ln : Nat → Int32) (Sz : Nat → Int32) (dr : Nat → Int32) (pR : Int32) (pP : Int32) (pL : Nat → Int32) (pN : Nat → Nat → Int32) (qR : Int32) (qP : Int32) (qL : Nat → Int32) (qN : Nat → Nat → Int32) (aR : Int32) (aP : Int32) (aL : Nat → Int32) (aN : Nat → Nat → Int32) (bR : Int32) (bP : Int32) (bL : Nat → Int32) (bN : Nat → Nat → Int32) (x1 : Int32) (x2 : Int32) (x3 : Int32) (x4 : Int32) {post : Int32 → (Nat → Nat → Int32) → Prop} (hf : p_X4_between M N C Gr x1 x2 x3 x4 post) : ctI l yX4_between wsX4_between ({ frames := 2, cells := 0, slots := 0, locals := 52 }) D k [.ref (b 0), .int x1, .int x2, .int x3, .int x4] (wX k b ag as ap aq aa ab M N C Gr Pr Pa I Ln Sz dr pR pP pL pN qR qP qL qN aR aP aL aN bR bP bL bN) (fun u : (Nat → Nat → Int32) => wX k b ag as ap aq aa ab M N C u Pr Pa I Ln Sz dr pR pP pL pN qR qP qL qN aR aP aL aN bR bP bL bN) (fun (r : Int32) (u : (Nat → Nat → Int32)) => post r u) := by
  refine Met.ofW (cc := cX4_between) (maxL := 5) (ret := (some .int)) (by decide) rfl ?_
  intro p e s m args below meth c s₁ B hml hv
  obtain ⟨rfl, hP, hG, hD0⟩ := hv
  have C0 : xM p s m ([.ref (b 0), .int x1, .int x2, .int x3, .int x4] : List Value).toArray meth c cX4_between 5 RX4 (some .int) wsX4_between := ⟨B.exec, B.bytes, B.returns, atoms_spec (ws := wsX4_between) B.pre, findClass_of_methodNamed B.named, B.notSynchronized, hml⟩
  obtain ⟨hx, hb, hr, hts, hown, hlocks, hml⟩ := id C0
  have hD := xSelf hD0
  have hS : va_S (xIn (wX k b ag as ap aq aa ab M N C Gr Pr Pa I Ln Sz dr pR pP pL pN qR qP qL qN aR aP aL aN bR bP bL bN)) s.heap s.heap [] := va_S.rf
  generalize xIn (wX k b ag as ap aq aa ab M N C Gr Pr Pa I Ln Sz dr pR pP pL pN qR qP qL qN aR aP aL aN bR bP bL bN) = A at hD hS ⊢
  have hl := lv_entry ([.ref (b 0), .int x1, .int x2, .int x3, .int x4]) (n := 5) (Nat.le_of_ble_eq_true rfl)
  rw [lg_entry_eq]
  generalize (lg_sl ([.ref (b 0), .int x1, .int x2, .int x3, .int x4]) ++ List.replicate (5 - (lg_sl ([.ref (b 0), .int x1, .int x2, .int x3, .int x4])).length) Slot.unset).toArray = ls at hl ⊢
  have hl : lv_has ls 5 [(0, .ref (b 0)), (1, .int x1), (2, .int x2), (3, .int x3), (4, .int x4)] := hl
  unfold p_X4_between at hf
  refine lv_aload_n hx hb dX4_between_0 rfl (lv_at hl 0 rfl) ?_
  refine va_get (D := D) (ci := 4) (C := RX4) (T := TX4) (N := 6) hx hb hts in_X4_between_X4 hown hG.1 hP 0 rfl rfl 0 (by decide) (hts _ lk_X4_between_10) (fun _ h9 => h9) rfl dX4_between_1 ?_
  refine lv_iload_n hx hb dX4_between_4 rfl (lv_at hl 1 rfl) ?_
  refine lv_iload_n hx hb dX4_between_5 rfl (lv_at hl 2 rfl) ?_
  have hp : xPerm (wX k b ag as ap aq aa ab M N C Gr Pr Pa I Ln Sz dr pR pP pL pN qR qP qL qN aR aP aL aN bR bP bL bN) ((wG k ag M N C Gr Pr Pa) ++ ([((b 0, .inr (4, [.ref (ag 0), .ref (b 1), .ref (b 2), .ref (aa 0), .ref (ab 0), .ref (b 3)])) : Nat × va_E)] ++ ([((b 1, .inl (k 5, 4, rfs (fun i => as (2 * i)))) : Nat × va_E)] ++ ([((b 2, .inr (3, [.ref (ap 0), .ref (aq 0)])) : Nat × va_E)] ++ ([((b 3, .inl (k 0, 40, .inl dr)) : Nat × va_E)] ++ (wSS k as I Ln Sz ++ (wT k ap pR pP pL pN ++ (wT k aq qR qP qL qN ++ (wT k aa aR aP aL aN ++ wT k ab bR bP bL bN))))))))) := (xPermC fun _ x => by simp only [wX, wW, List.count_append]; omega)
  refine xCallI (w := wG k ag M N C Gr Pr Pa) (r := [((b 0, .inr (4, [.ref (ag 0), .ref (b 1), .ref (b 2), .ref (aa 0), .ref (ab 0), .ref (b 3)])) : Nat × va_E)] ++ ([((b 1, .inl (k 5, 4, rfs (fun i => as (2 * i)))) : Nat × va_E)] ++ ([((b 2, .inr (3, [.ref (ap 0), .ref (aq 0)])) : Nat × va_E)] ++ ([((b 3, .inl (k 0, 40, .inl dr)) : Nat × va_E)] ++ (wSS k as I Ln Sz ++ (wT k ap pR pP pL pN ++ (wT k aq qR qP qL qN ++ (wT k aa aR aP aL aN ++ wT k ab bR bP bL bN)))))))) (va_runV (As := [.int x1, .int x2]) (rest := []) ⟨hx, hb, hml, hown, hts⟩ (c_X0_hasPlace ag M N C Gr Pr Pa x1 x2 hf) (cwV 2 hts gX4_between_X0_hasPlace rfl rfl rfl (by decide +kernel) ⟨Nat.le_of_ble_eq_true rfl, Nat.le_of_ble_eq_true rfl⟩) (xPreV hG hP hD hp (ci := 0) rfl (i := 0) rfl) rfl rfl hl.1 rfl (lv_room (Nat.le_of_ble_eq_true rfl)) dX4_between_6 ⟨Nat.zero_le _, Nat.zero_le _⟩) hP hD hS hp (fun _ => wG_adr) (fun r_1 _ H locs hf hP hD hS => ?_)
  have hP : va_P D vwCl (wX k b ag as ap aq aa ab M N C Gr Pr Pa I Ln Sz dr pR pP pL pN qR qP qL qN aR aP aL aN bR bP bL bN) H := xP_perm (xPermC fun _ x => by simp only [wX, wW, List.count_append]; omega) hP
  have hD : va_D A (wX k b ag as ap aq aa ab M N C Gr Pr Pa I Ln Sz dr pR pP pL pN qR qP qL qN aR aP aL aN bR bP bL bN) := xD_perm (xPermC fun _ x => by simp only [wX, wW, List.count_append]; omega) hD
  refine lv_if_eq (tgt := 25) hx hb dX4_between_9 (by decide) (fun c_2 => ?_) (fun c_2 => ?_)
  · have hf := hf.1 c_2
    refine lv_iconst (v := (-1)) hx hb dX4_between_25 (by decide) ?_
    exact W.iret (v := (-1)) hx hb hr (fun t ht hW => ⟨⟨((-1) : Int32), Gr, rfl, hf, xHp ht hP⟩, hS.F ht⟩) hS.2.2 dX4_between_26 hlocks
  · have hf := hf.2 c_2
    refine lv_aload_n hx hb dX4_between_12 rfl (lv_at hl 0 rfl) ?_
    refine va_get (D := D) (ci := 4) (C := RX4) (T := TX4) (N := 6) hx hb hts in_X4_between_X4 hown hG.1 hP 0 rfl rfl 0 (by decide) (hts _ lk_X4_between_10) (fun _ h9 => h9) rfl dX4_between_13 ?_
    refine lv_iload_n hx hb dX4_between_16 rfl (lv_at hl 3 rfl) ?_
    refine lv_iload hx hb dX4_between_17 (lv_at hl 4 rfl) ?_
    have hp : xPerm (wX k b ag as ap aq aa ab M N C Gr Pr Pa I Ln Sz dr pR pP pL pN qR qP qL qN aR aP aL aN bR bP bL bN) ((wG k ag M N C Gr Pr Pa) ++ ([((b 0, .inr (4, [.ref (ag 0), .ref (b 1), .ref (b 2), .ref (aa 0), .ref (ab 0), .ref (b 3)])) : Nat × va_E)] ++ ([((b 1, .inl (k 5, 4, rfs (fun i => as (2 * i)))) : Nat × va_E)] ++ ([((b 2, .inr (3, [.ref (ap 0), .ref (aq 0)])) : Nat × va_E)] ++ ([((b 3, .inl (k 0, 40, .inl dr)) : Nat × va_E)] ++ (wSS k as I Ln Sz ++ (wT k ap pR pP pL pN ++ (wT k aq qR qP qL qN ++ (wT k aa aR aP aL aN ++ wT k ab bR bP bL bN))))))))) := (xPermC fun _ x => by simp only [wX, wW, List.count_append]; omega)
    refine xCallI (w := wG k ag M N C Gr Pr Pa) (r := [((b 0, .inr (4, [.ref (ag 0), .ref (b 1), .ref (b 2), .ref (aa 0), .ref (ab 0), .ref (b 3)])) : Nat × va_E)] ++ ([((b 1, .inl (k 5, 4, rfs (fun i => as (2 * i)))) : Nat × va_E)] ++ ([((b 2, .inr (3, [.ref (ap 0), .ref (aq 0)])) : Nat × va_E)] ++ ([((b 3, .inl (k 0, 40, .inl dr)) : Nat × va_E)] ++ (wSS k as I Ln Sz ++ (wT k ap pR pP pL pN ++ (wT k aq qR qP qL qN ++ (wT k aa aR aP aL aN ++ wT k ab bR bP bL bN)))))))) (va_runV (As := [.int x3, .int x4]) (rest := []) ⟨hx, hb, hml, hown, hts⟩ (c_X0_hasPlace ag M N C Gr Pr Pa x3 x4 hf) (cwV 2 hts gX4_between_X0_hasPlace rfl rfl rfl (by decide +kernel) ⟨Nat.le_of_ble_eq_true rfl, Nat.le_of_ble_eq_true rfl⟩) (xPreV hG hP hD hp (ci := 0) rfl (i := 0) rfl) rfl rfl hl.1 rfl (lv_room (Nat.le_of_ble_eq_true rfl)) dX4_between_19 ⟨Nat.zero_le _, Nat.zero_le _⟩) hP hD hS hp (fun _ => wG_adr) (fun r_3 _ H locs hf hP hD hS => ?_)
    have hP : va_P D vwCl (wX k b ag as ap aq aa ab M N C Gr Pr Pa I Ln Sz dr pR pP pL pN qR qP qL qN aR aP aL aN bR bP bL bN) H := xP_perm (xPermC fun _ x => by simp only [wX, wW, List.count_append]; omega) hP
    have hD : va_D A (wX k b ag as ap aq aa ab M N C Gr Pr Pa I Ln Sz dr pR pP pL pN qR qP qL qN aR aP aL aN bR bP bL bN) := xD_perm (xPermC fun _ x => by simp only [wX, wW, List.count_append]; omega) hD
    refine lv_if_ne (tgt := 27) hx hb dX4_between_22 (by decide) (fun c_4 => ?_) (fun c_4 => ?_)
    · have hf := hf.2 c_4
      refine lv_iload_n hx hb dX4_between_27 rfl (lv_at hl 3 rfl) ?_
      refine lv_iload_n hx hb dX4_between_28 rfl (lv_at hl 1 rfl) ?_
      refine lv_icmp_lt (tgt := 38) hx hb dX4_between_29 (by decide) (fun c_5 => ?_) (fun c_5 => ?_)
      · have hf := hf.1 c_5
        refine lv_bipush (v := (-4)) hx hb dX4_between_38 (by decide) ?_
        exact W.iret (v := (-4)) hx hb hr (fun t ht hW => ⟨⟨((-4) : Int32), Gr, rfl, hf, xHp ht hP⟩, hS.F ht⟩) hS.2.2 dX4_between_40 hlocks
      · have hf := hf.2 c_5
        refine lv_iload hx hb dX4_between_32 (lv_at hl 4 rfl) ?_
        refine lv_iload_n hx hb dX4_between_34 rfl (lv_at hl 2 rfl) ?_
        refine lv_icmp_ge (tgt := 41) hx hb dX4_between_35 (by decide) (fun c_6 => ?_) (fun c_6 => ?_)
        · have hf := hf.1 c_6
          refine lv_aload_n hx hb dX4_between_41 rfl (lv_at hl 0 rfl) ?_
          refine va_get (D := D) (ci := 4) (C := RX4) (T := TX4) (N := 6) hx hb hts in_X4_between_X4 hown hG.1 hP 0 rfl rfl 0 (by decide) (hts _ lk_X4_between_10) (fun _ h9 => h9) rfl dX4_between_42 ?_
          refine lv_iload_n hx hb dX4_between_45 rfl (lv_at hl 1 rfl) ?_
          refine lv_iload_n hx hb dX4_between_46 rfl (lv_at hl 2 rfl) ?_
          refine lv_iload_n hx hb dX4_between_47 rfl (lv_at hl 3 rfl) ?_
          refine lv_iload hx hb dX4_between_48 (lv_at hl 4 rfl) ?_
          have hp : xPerm (wX k b ag as ap aq aa ab M N C Gr Pr Pa I Ln Sz dr pR pP pL pN qR qP qL qN aR aP aL aN bR bP bL bN) ((wG k ag M N C Gr Pr Pa) ++ ([((b 0, .inr (4, [.ref (ag 0), .ref (b 1), .ref (b 2), .ref (aa 0), .ref (ab 0), .ref (b 3)])) : Nat × va_E)] ++ ([((b 1, .inl (k 5, 4, rfs (fun i => as (2 * i)))) : Nat × va_E)] ++ ([((b 2, .inr (3, [.ref (ap 0), .ref (aq 0)])) : Nat × va_E)] ++ ([((b 3, .inl (k 0, 40, .inl dr)) : Nat × va_E)] ++ (wSS k as I Ln Sz ++ (wT k ap pR pP pL pN ++ (wT k aq qR qP qL qN ++ (wT k aa aR aP aL aN ++ wT k ab bR bP bL bN))))))))) := (xPermC fun _ x => by simp only [wX, wW, List.count_append]; omega)
          refine xCallI (w := wG k ag M N C Gr Pr Pa) (r := [((b 0, .inr (4, [.ref (ag 0), .ref (b 1), .ref (b 2), .ref (aa 0), .ref (ab 0), .ref (b 3)])) : Nat × va_E)] ++ ([((b 1, .inl (k 5, 4, rfs (fun i => as (2 * i)))) : Nat × va_E)] ++ ([((b 2, .inr (3, [.ref (ap 0), .ref (aq 0)])) : Nat × va_E)] ++ ([((b 3, .inl (k 0, 40, .inl dr)) : Nat × va_E)] ++ (wSS k as I Ln Sz ++ (wT k ap pR pP pL pN ++ (wT k aq qR qP qL qN ++ (wT k aa aR aP aL aN ++ wT k ab bR bP bL bN)))))))) (va_runV (As := [.int x1, .int x2, .int x3, .int x4]) (rest := []) ⟨hx, hb, hml, hown, hts⟩ (c_X0_heaviest ag M N C Gr Pr Pa x1 x2 x3 x4 hf) (cwV 4 hts gX4_between_X0_heaviest rfl rfl rfl (by decide +kernel) ⟨Nat.le_of_ble_eq_true rfl, Nat.le_of_ble_eq_true rfl⟩) (xPreV hG hP hD hp (ci := 0) rfl (i := 0) rfl) rfl rfl hl.1 rfl (lv_room (Nat.le_of_ble_eq_true rfl)) dX4_between_50 ⟨Nat.zero_le _, Nat.zero_le _⟩) hP hD hS hp (fun _ => wG_adr) (fun r_8 Gr_7 H locs hf hP hD hS => ?_)
          have hP : va_P D vwCl (wX k b ag as ap aq aa ab M N C Gr_7 Pr Pa I Ln Sz dr pR pP pL pN qR qP qL qN aR aP aL aN bR bP bL bN) H := xP_perm (xPermC fun _ x => by simp only [wX, wW, List.count_append]; omega) hP
          have hD : va_D A (wX k b ag as ap aq aa ab M N C Gr_7 Pr Pa I Ln Sz dr pR pP pL pN qR qP qL qN aR aP aL aN bR bP bL bN) := xD_perm (xPermC fun _ x => by simp only [wX, wW, List.count_append]; omega) hD
          exact W.iret (v := r_8) hx hb hr (fun t ht hW => ⟨⟨r_8, Gr_7, rfl, hf, xHp ht hP⟩, hS.F ht⟩) hS.2.2 dX4_between_53 hlocks
        · have hf := hf.2 c_6
          refine lv_bipush (v := (-4)) hx hb dX4_between_38 (by decide) ?_
          exact W.iret (v := (-4)) hx hb hr (fun t ht hW => ⟨⟨((-4) : Int32), Gr, rfl, hf, xHp ht hP⟩, hS.F ht⟩) hS.2.2 dX4_between_40 hlocks
    · have hf := hf.1 c_4
      refine lv_iconst (v := (-1)) hx hb dX4_between_25 (by decide) ?_
      exact W.iret (v := (-1)) hx hb hr (fun t ht hW => ⟨⟨((-1) : Int32), Gr, rfl, hf, xHp ht hP⟩, hS.F ht⟩) hS.2.2 dX4_between_26 hlocks

def p_X4_shape (M : Int32) (N : Int32) (C : Nat → Nat → Int32) (Pa : Nat → Nat → Int32) (x1 : Int32) (x2 : Int32) (x3 : Int32) (post : Int32 → (Nat → Nat → Int32) → Prop) : Prop := p_X0_hasCorner M N x1 x2 (fun r_1 => ((r_1 = 0 → post (-1) Pa) ∧ (¬ r_1 = 0 → p_X4_isWithin x3 0 5 (fun r_3 => ((r_3 = 0 → post (-1) Pa) ∧ (¬ r_3 = 0 → p_X0_growShapes M N C Pa (fun Pa_5 => p_X0_partAt Pa_5 x1 x2 x3 (fun r_6 => post r_6 Pa_5))))))))
theorem in_X4_shape_X4 : ∀ w ∈ u_ws RX4 TX4 6, w ∈ wsX4_shape := by decide +kernel
theorem lk_X4_shape_10 : Cond.fieldLink RX4 10 "GrowingCorners" "grid" "LGrowingCorners$Grid;" ∈ wsX4_shape := by decide +kernel
set_option maxHeartbeats 4000000 in
set_option maxRecDepth 100000 in
theorem c_X4_shape {l : Launch} {D : va_G} {k : Nat → ClassId} (b : Nat → Nat) (ag : Nat → Nat) (as : Nat → Nat) (ap : Nat → Nat) (aq : Nat → Nat) (aa : Nat → Nat) (ab : Nat → Nat) (M : Int32) (N : Int32) (C : Nat → Nat → Int32) (Gr : Nat → Nat → Int32) (Pr : Nat → Nat → Int64) (Pa : Nat → Nat → Int32) (I : Nat → Nat → Int64) (Ln : Nat → Int32) (Sz : Nat → Int32) (dr : Nat → Int32) (pR : Int32) (pP : Int32) (pL : Nat → Int32) (pN : Nat → Nat → Int32) (qR : Int32) (qP : Int32) (qL : Nat → Int32) (qN : Nat → Nat → Int32) (aR : Int32) (aP : Int32) (aL : Nat → Int32) (aN : Nat → Nat → Int32) (bR : Int32) (bP : Int32) (bL : Nat → Int32) (bN : Nat → Nat → Int32) (x1 : Int32) (x2 : Int32) (x3 : Int32) {post : Int32 → (Nat → Nat → Int32) → Prop} (hf : p_X4_shape M N C Pa x1 x2 x3 post) : ctI l yX4_shape wsX4_shape ({ frames := 3, cells := 0, slots := 0, locals := 73 }) D k [.ref (b 0), .int x1, .int x2, .int x3] (wX k b ag as ap aq aa ab M N C Gr Pr Pa I Ln Sz dr pR pP pL pN qR qP qL qN aR aP aL aN bR bP bL bN) (fun u : (Nat → Nat → Int32) => wX k b ag as ap aq aa ab M N C Gr Pr u I Ln Sz dr pR pP pL pN qR qP qL qN aR aP aL aN bR bP bL bN) (fun (r : Int32) (u : (Nat → Nat → Int32)) => post r u) := by
  refine Met.ofW (cc := cX4_shape) (maxL := 4) (ret := (some .int)) (by decide) rfl ?_
  intro p e s m args below meth c s₁ B hml hv
  obtain ⟨rfl, hP, hG, hD0⟩ := hv
  have C0 : xM p s m ([.ref (b 0), .int x1, .int x2, .int x3] : List Value).toArray meth c cX4_shape 4 RX4 (some .int) wsX4_shape := ⟨B.exec, B.bytes, B.returns, atoms_spec (ws := wsX4_shape) B.pre, findClass_of_methodNamed B.named, B.notSynchronized, hml⟩
  obtain ⟨hx, hb, hr, hts, hown, hlocks, hml⟩ := id C0
  have hD := xSelf hD0
  have hS : va_S (xIn (wX k b ag as ap aq aa ab M N C Gr Pr Pa I Ln Sz dr pR pP pL pN qR qP qL qN aR aP aL aN bR bP bL bN)) s.heap s.heap [] := va_S.rf
  generalize xIn (wX k b ag as ap aq aa ab M N C Gr Pr Pa I Ln Sz dr pR pP pL pN qR qP qL qN aR aP aL aN bR bP bL bN) = A at hD hS ⊢
  have hl := lv_entry ([.ref (b 0), .int x1, .int x2, .int x3]) (n := 4) (Nat.le_of_ble_eq_true rfl)
  rw [lg_entry_eq]
  generalize (lg_sl ([.ref (b 0), .int x1, .int x2, .int x3]) ++ List.replicate (4 - (lg_sl ([.ref (b 0), .int x1, .int x2, .int x3])).length) Slot.unset).toArray = ls at hl ⊢
  have hl : lv_has ls 4 [(0, .ref (b 0)), (1, .int x1), (2, .int x2), (3, .int x3)] := hl
  unfold p_X4_shape at hf
  refine lv_aload_n hx hb dX4_shape_0 rfl (lv_at hl 0 rfl) ?_
  refine va_get (D := D) (ci := 4) (C := RX4) (T := TX4) (N := 6) hx hb hts in_X4_shape_X4 hown hG.1 hP 0 rfl rfl 0 (by decide) (hts _ lk_X4_shape_10) (fun _ h9 => h9) rfl dX4_shape_1 ?_
  refine lv_iload_n hx hb dX4_shape_4 rfl (lv_at hl 1 rfl) ?_
  refine lv_iload_n hx hb dX4_shape_5 rfl (lv_at hl 2 rfl) ?_
  have hp : xPerm (wX k b ag as ap aq aa ab M N C Gr Pr Pa I Ln Sz dr pR pP pL pN qR qP qL qN aR aP aL aN bR bP bL bN) ((wG k ag M N C Gr Pr Pa) ++ ([((b 0, .inr (4, [.ref (ag 0), .ref (b 1), .ref (b 2), .ref (aa 0), .ref (ab 0), .ref (b 3)])) : Nat × va_E)] ++ ([((b 1, .inl (k 5, 4, rfs (fun i => as (2 * i)))) : Nat × va_E)] ++ ([((b 2, .inr (3, [.ref (ap 0), .ref (aq 0)])) : Nat × va_E)] ++ ([((b 3, .inl (k 0, 40, .inl dr)) : Nat × va_E)] ++ (wSS k as I Ln Sz ++ (wT k ap pR pP pL pN ++ (wT k aq qR qP qL qN ++ (wT k aa aR aP aL aN ++ wT k ab bR bP bL bN))))))))) := (xPermC fun _ x => by simp only [wX, wW, List.count_append]; omega)
  refine xCallI (w := wG k ag M N C Gr Pr Pa) (r := [((b 0, .inr (4, [.ref (ag 0), .ref (b 1), .ref (b 2), .ref (aa 0), .ref (ab 0), .ref (b 3)])) : Nat × va_E)] ++ ([((b 1, .inl (k 5, 4, rfs (fun i => as (2 * i)))) : Nat × va_E)] ++ ([((b 2, .inr (3, [.ref (ap 0), .ref (aq 0)])) : Nat × va_E)] ++ ([((b 3, .inl (k 0, 40, .inl dr)) : Nat × va_E)] ++ (wSS k as I Ln Sz ++ (wT k ap pR pP pL pN ++ (wT k aq qR qP qL qN ++ (wT k aa aR aP aL aN ++ wT k ab bR bP bL bN)))))))) (va_runV (As := [.int x1, .int x2]) (rest := []) ⟨hx, hb, hml, hown, hts⟩ (c_X0_hasCorner ag M N C Gr Pr Pa x1 x2 hf) (cwV 2 hts gX4_shape_X0_hasCorner rfl rfl rfl (by decide +kernel) ⟨Nat.le_of_ble_eq_true rfl, Nat.le_of_ble_eq_true rfl⟩) (xPreV hG hP hD hp (ci := 0) rfl (i := 0) rfl) rfl rfl hl.1 rfl (lv_room (Nat.le_of_ble_eq_true rfl)) dX4_shape_6 ⟨Nat.zero_le _, Nat.zero_le _⟩) hP hD hS hp (fun _ => wG_adr) (fun r_1 _ H locs hf hP hD hS => ?_)
  have hP : va_P D vwCl (wX k b ag as ap aq aa ab M N C Gr Pr Pa I Ln Sz dr pR pP pL pN qR qP qL qN aR aP aL aN bR bP bL bN) H := xP_perm (xPermC fun _ x => by simp only [wX, wW, List.count_append]; omega) hP
  have hD : va_D A (wX k b ag as ap aq aa ab M N C Gr Pr Pa I Ln Sz dr pR pP pL pN qR qP qL qN aR aP aL aN bR bP bL bN) := xD_perm (xPermC fun _ x => by simp only [wX, wW, List.count_append]; omega) hD
  refine lv_if_eq (tgt := 21) hx hb dX4_shape_9 (by decide) (fun c_2 => ?_) (fun c_2 => ?_)
  · have hf := hf.1 c_2
    refine lv_iconst (v := (-1)) hx hb dX4_shape_21 (by decide) ?_
    exact W.iret (v := (-1)) hx hb hr (fun t ht hW => ⟨⟨((-1) : Int32), Pa, rfl, hf, xHp ht hP⟩, hS.F ht⟩) hS.2.2 dX4_shape_22 hlocks
  · have hf := hf.2 c_2
    refine lv_iload_n hx hb dX4_shape_12 rfl (lv_at hl 3 rfl) ?_
    refine lv_iconst (v := 0) hx hb dX4_shape_13 (by decide) ?_
    refine lv_iconst (v := 5) hx hb dX4_shape_14 (by decide) ?_
    have hp : xPerm (wX k b ag as ap aq aa ab M N C Gr Pr Pa I Ln Sz dr pR pP pL pN qR qP qL qN aR aP aL aN bR bP bL bN) (([]) ++ (wX k b ag as ap aq aa ab M N C Gr Pr Pa I Ln Sz dr pR pP pL pN qR qP qL qN aR aP aL aN bR bP bL bN)) := (List.Perm.refl _)
    refine xCallI (w := []) (r := wX k b ag as ap aq aa ab M N C Gr Pr Pa I Ln Sz dr pR pP pL pN qR qP qL qN aR aP aL aN bR bP bL bN) (va_runS (As := [.int x3, .int 0, .int 5]) (rest := []) ⟨hx, hb, hml, hown, hts⟩ (c_X4_isWithin x3 0 5 hf) (va_cwS 3 hts gX4_shape_X4_isWithin rfl rfl rfl (by decide +kernel) ⟨Nat.le_of_ble_eq_true rfl, Nat.le_of_ble_eq_true rfl⟩) (xPreS hG hP hD hp) rfl rfl hl.1 rfl (lv_room (Nat.le_of_ble_eq_true rfl)) dX4_shape_15 ⟨Nat.zero_le _, Nat.zero_le _⟩) hP hD hS hp (fun _ => rfl) (fun r_3 _ H locs hf hP hD hS => ?_)
    have hP : va_P D vwCl (wX k b ag as ap aq aa ab M N C Gr Pr Pa I Ln Sz dr pR pP pL pN qR qP qL qN aR aP aL aN bR bP bL bN) H := hP
    have hD : va_D A (wX k b ag as ap aq aa ab M N C Gr Pr Pa I Ln Sz dr pR pP pL pN qR qP qL qN aR aP aL aN bR bP bL bN) := hD
    refine lv_if_ne (tgt := 23) hx hb dX4_shape_18 (by decide) (fun c_4 => ?_) (fun c_4 => ?_)
    · have hf := hf.2 c_4
      refine lv_aload_n hx hb dX4_shape_23 rfl (lv_at hl 0 rfl) ?_
      refine va_get (D := D) (ci := 4) (C := RX4) (T := TX4) (N := 6) hx hb hts in_X4_shape_X4 hown hG.1 hP 0 rfl rfl 0 (by decide) (hts _ lk_X4_shape_10) (fun _ h9 => h9) rfl dX4_shape_24 ?_
      have hp : xPerm (wX k b ag as ap aq aa ab M N C Gr Pr Pa I Ln Sz dr pR pP pL pN qR qP qL qN aR aP aL aN bR bP bL bN) ((wG k ag M N C Gr Pr Pa) ++ ([((b 0, .inr (4, [.ref (ag 0), .ref (b 1), .ref (b 2), .ref (aa 0), .ref (ab 0), .ref (b 3)])) : Nat × va_E)] ++ ([((b 1, .inl (k 5, 4, rfs (fun i => as (2 * i)))) : Nat × va_E)] ++ ([((b 2, .inr (3, [.ref (ap 0), .ref (aq 0)])) : Nat × va_E)] ++ ([((b 3, .inl (k 0, 40, .inl dr)) : Nat × va_E)] ++ (wSS k as I Ln Sz ++ (wT k ap pR pP pL pN ++ (wT k aq qR qP qL qN ++ (wT k aa aR aP aL aN ++ wT k ab bR bP bL bN))))))))) := (xPermC fun _ x => by simp only [wX, wW, List.count_append]; omega)
      refine xCallV (w := wG k ag M N C Gr Pr Pa) (r := [((b 0, .inr (4, [.ref (ag 0), .ref (b 1), .ref (b 2), .ref (aa 0), .ref (ab 0), .ref (b 3)])) : Nat × va_E)] ++ ([((b 1, .inl (k 5, 4, rfs (fun i => as (2 * i)))) : Nat × va_E)] ++ ([((b 2, .inr (3, [.ref (ap 0), .ref (aq 0)])) : Nat × va_E)] ++ ([((b 3, .inl (k 0, 40, .inl dr)) : Nat × va_E)] ++ (wSS k as I Ln Sz ++ (wT k ap pR pP pL pN ++ (wT k aq qR qP qL qN ++ (wT k aa aR aP aL aN ++ wT k ab bR bP bL bN)))))))) (va_runV (As := []) (rest := []) ⟨hx, hb, hml, hown, hts⟩ (c_X0_growShapes ag M N C Gr Pr Pa hf) (cwV 0 hts gX4_shape_X0_growShapes rfl rfl rfl (by decide +kernel) ⟨Nat.le_of_ble_eq_true rfl, Nat.le_of_ble_eq_true rfl⟩) (xPreV hG hP hD hp (ci := 0) rfl (i := 0) rfl) rfl rfl hl.1 rfl (lv_room (Nat.le_of_ble_eq_true rfl)) dX4_shape_27 ⟨Nat.zero_le _, Nat.zero_le _⟩) hP hD hS hp (fun _ => wG_adr) (fun Pa_5 H locs hf hP hD hS => ?_)
      have hP : va_P D vwCl (wX k b ag as ap aq aa ab M N C Gr Pr Pa_5 I Ln Sz dr pR pP pL pN qR qP qL qN aR aP aL aN bR bP bL bN) H := xP_perm (xPermC fun _ x => by simp only [wX, wW, List.count_append]; omega) hP
      have hD : va_D A (wX k b ag as ap aq aa ab M N C Gr Pr Pa_5 I Ln Sz dr pR pP pL pN qR qP qL qN aR aP aL aN bR bP bL bN) := xD_perm (xPermC fun _ x => by simp only [wX, wW, List.count_append]; omega) hD
      refine lv_aload_n hx hb dX4_shape_30 rfl (lv_at hl 0 rfl) ?_
      refine va_get (D := D) (ci := 4) (C := RX4) (T := TX4) (N := 6) hx hb hts in_X4_shape_X4 hown hG.1 hP 0 rfl rfl 0 (by decide) (hts _ lk_X4_shape_10) (fun _ h9 => h9) rfl dX4_shape_31 ?_
      refine lv_iload_n hx hb dX4_shape_34 rfl (lv_at hl 1 rfl) ?_
      refine lv_iload_n hx hb dX4_shape_35 rfl (lv_at hl 2 rfl) ?_
      refine lv_iload_n hx hb dX4_shape_36 rfl (lv_at hl 3 rfl) ?_
      have hp : xPerm (wX k b ag as ap aq aa ab M N C Gr Pr Pa_5 I Ln Sz dr pR pP pL pN qR qP qL qN aR aP aL aN bR bP bL bN) ((wG k ag M N C Gr Pr Pa_5) ++ ([((b 0, .inr (4, [.ref (ag 0), .ref (b 1), .ref (b 2), .ref (aa 0), .ref (ab 0), .ref (b 3)])) : Nat × va_E)] ++ ([((b 1, .inl (k 5, 4, rfs (fun i => as (2 * i)))) : Nat × va_E)] ++ ([((b 2, .inr (3, [.ref (ap 0), .ref (aq 0)])) : Nat × va_E)] ++ ([((b 3, .inl (k 0, 40, .inl dr)) : Nat × va_E)] ++ (wSS k as I Ln Sz ++ (wT k ap pR pP pL pN ++ (wT k aq qR qP qL qN ++ (wT k aa aR aP aL aN ++ wT k ab bR bP bL bN))))))))) := (xPermC fun _ x => by simp only [wX, wW, List.count_append]; omega)
      refine xCallI (w := wG k ag M N C Gr Pr Pa_5) (r := [((b 0, .inr (4, [.ref (ag 0), .ref (b 1), .ref (b 2), .ref (aa 0), .ref (ab 0), .ref (b 3)])) : Nat × va_E)] ++ ([((b 1, .inl (k 5, 4, rfs (fun i => as (2 * i)))) : Nat × va_E)] ++ ([((b 2, .inr (3, [.ref (ap 0), .ref (aq 0)])) : Nat × va_E)] ++ ([((b 3, .inl (k 0, 40, .inl dr)) : Nat × va_E)] ++ (wSS k as I Ln Sz ++ (wT k ap pR pP pL pN ++ (wT k aq qR qP qL qN ++ (wT k aa aR aP aL aN ++ wT k ab bR bP bL bN)))))))) (va_runV (As := [.int x1, .int x2, .int x3]) (rest := []) ⟨hx, hb, hml, hown, hts⟩ (c_X0_partAt ag M N C Gr Pr Pa_5 x1 x2 x3 hf) (cwV 3 hts gX4_shape_X0_partAt rfl rfl rfl (by decide +kernel) ⟨Nat.le_of_ble_eq_true rfl, Nat.le_of_ble_eq_true rfl⟩) (xPreV hG hP hD hp (ci := 0) rfl (i := 0) rfl) rfl rfl hl.1 rfl (lv_room (Nat.le_of_ble_eq_true rfl)) dX4_shape_37 ⟨Nat.zero_le _, Nat.zero_le _⟩) hP hD hS hp (fun _ => wG_adr) (fun r_6 _ H locs hf hP hD hS => ?_)
      have hP : va_P D vwCl (wX k b ag as ap aq aa ab M N C Gr Pr Pa_5 I Ln Sz dr pR pP pL pN qR qP qL qN aR aP aL aN bR bP bL bN) H := xP_perm (xPermC fun _ x => by simp only [wX, wW, List.count_append]; omega) hP
      have hD : va_D A (wX k b ag as ap aq aa ab M N C Gr Pr Pa_5 I Ln Sz dr pR pP pL pN qR qP qL qN aR aP aL aN bR bP bL bN) := xD_perm (xPermC fun _ x => by simp only [wX, wW, List.count_append]; omega) hD
      exact W.iret (v := r_6) hx hb hr (fun t ht hW => ⟨⟨r_6, Pa_5, rfl, hf, xHp ht hP⟩, hS.F ht⟩) hS.2.2 dX4_shape_40 hlocks
    · have hf := hf.1 c_4
      refine lv_iconst (v := (-1)) hx hb dX4_shape_21 (by decide) ?_
      exact W.iret (v := (-1)) hx hb hr (fun t ht hW => ⟨⟨((-1) : Int32), Pa, rfl, hf, xHp ht hP⟩, hS.F ht⟩) hS.2.2 dX4_shape_22 hlocks

def p_X4_ways (M : Int32) (N : Int32) (C : Nat → Nat → Int32) (Pa : Nat → Nat → Int32) (x1 : Int32) (post : Int32 → (Nat → Nat → Int32) → Prop) : Prop := p_X4_isWithin x1 1 6 (fun r_1 => ((r_1 = 0 → post (-1) Pa) ∧ (¬ r_1 = 0 → p_X0_growShapes M N C Pa (fun Pa_3 => p_X0_firstPartsAtEnd M N Pa_3 x1 (fun r_4 => post r_4 Pa_3)))))
theorem in_X4_ways_X4 : ∀ w ∈ u_ws RX4 TX4 6, w ∈ wsX4_ways := by decide +kernel
theorem lk_X4_ways_10 : Cond.fieldLink RX4 10 "GrowingCorners" "grid" "LGrowingCorners$Grid;" ∈ wsX4_ways := by decide +kernel
set_option maxHeartbeats 4000000 in
set_option maxRecDepth 100000 in
theorem c_X4_ways {l : Launch} {D : va_G} {k : Nat → ClassId} (b : Nat → Nat) (ag : Nat → Nat) (as : Nat → Nat) (ap : Nat → Nat) (aq : Nat → Nat) (aa : Nat → Nat) (ab : Nat → Nat) (M : Int32) (N : Int32) (C : Nat → Nat → Int32) (Gr : Nat → Nat → Int32) (Pr : Nat → Nat → Int64) (Pa : Nat → Nat → Int32) (I : Nat → Nat → Int64) (Ln : Nat → Int32) (Sz : Nat → Int32) (dr : Nat → Int32) (pR : Int32) (pP : Int32) (pL : Nat → Int32) (pN : Nat → Nat → Int32) (qR : Int32) (qP : Int32) (qL : Nat → Int32) (qN : Nat → Nat → Int32) (aR : Int32) (aP : Int32) (aL : Nat → Int32) (aN : Nat → Nat → Int32) (bR : Int32) (bP : Int32) (bL : Nat → Int32) (bN : Nat → Nat → Int32) (x1 : Int32) {post : Int32 → (Nat → Nat → Int32) → Prop} (hf : p_X4_ways M N C Pa x1 post) : ctI l yX4_ways wsX4_ways ({ frames := 3, cells := 0, slots := 0, locals := 73 }) D k [.ref (b 0), .int x1] (wX k b ag as ap aq aa ab M N C Gr Pr Pa I Ln Sz dr pR pP pL pN qR qP qL qN aR aP aL aN bR bP bL bN) (fun u : (Nat → Nat → Int32) => wX k b ag as ap aq aa ab M N C Gr Pr u I Ln Sz dr pR pP pL pN qR qP qL qN aR aP aL aN bR bP bL bN) (fun (r : Int32) (u : (Nat → Nat → Int32)) => post r u) := by
  refine Met.ofW (cc := cX4_ways) (maxL := 2) (ret := (some .int)) (by decide) rfl ?_
  intro p e s m args below meth c s₁ B hml hv
  obtain ⟨rfl, hP, hG, hD0⟩ := hv
  have C0 : xM p s m ([.ref (b 0), .int x1] : List Value).toArray meth c cX4_ways 2 RX4 (some .int) wsX4_ways := ⟨B.exec, B.bytes, B.returns, atoms_spec (ws := wsX4_ways) B.pre, findClass_of_methodNamed B.named, B.notSynchronized, hml⟩
  obtain ⟨hx, hb, hr, hts, hown, hlocks, hml⟩ := id C0
  have hD := xSelf hD0
  have hS : va_S (xIn (wX k b ag as ap aq aa ab M N C Gr Pr Pa I Ln Sz dr pR pP pL pN qR qP qL qN aR aP aL aN bR bP bL bN)) s.heap s.heap [] := va_S.rf
  generalize xIn (wX k b ag as ap aq aa ab M N C Gr Pr Pa I Ln Sz dr pR pP pL pN qR qP qL qN aR aP aL aN bR bP bL bN) = A at hD hS ⊢
  have hl := lv_entry ([.ref (b 0), .int x1]) (n := 2) (Nat.le_of_ble_eq_true rfl)
  rw [lg_entry_eq]
  generalize (lg_sl ([.ref (b 0), .int x1]) ++ List.replicate (2 - (lg_sl ([.ref (b 0), .int x1])).length) Slot.unset).toArray = ls at hl ⊢
  have hl : lv_has ls 2 [(0, .ref (b 0)), (1, .int x1)] := hl
  unfold p_X4_ways at hf
  refine lv_iload_n hx hb dX4_ways_0 rfl (lv_at hl 1 rfl) ?_
  refine lv_iconst (v := 1) hx hb dX4_ways_1 (by decide) ?_
  refine lv_bipush (v := 6) hx hb dX4_ways_2 (by decide) ?_
  have hp : xPerm (wX k b ag as ap aq aa ab M N C Gr Pr Pa I Ln Sz dr pR pP pL pN qR qP qL qN aR aP aL aN bR bP bL bN) (([]) ++ (wX k b ag as ap aq aa ab M N C Gr Pr Pa I Ln Sz dr pR pP pL pN qR qP qL qN aR aP aL aN bR bP bL bN)) := (List.Perm.refl _)
  refine xCallI (w := []) (r := wX k b ag as ap aq aa ab M N C Gr Pr Pa I Ln Sz dr pR pP pL pN qR qP qL qN aR aP aL aN bR bP bL bN) (va_runS (As := [.int x1, .int 1, .int 6]) (rest := []) ⟨hx, hb, hml, hown, hts⟩ (c_X4_isWithin x1 1 6 hf) (va_cwS 3 hts gX4_ways_X4_isWithin rfl rfl rfl (by decide +kernel) ⟨Nat.le_of_ble_eq_true rfl, Nat.le_of_ble_eq_true rfl⟩) (xPreS hG hP hD hp) rfl rfl hl.1 rfl (lv_room (Nat.le_of_ble_eq_true rfl)) dX4_ways_4 ⟨Nat.zero_le _, Nat.zero_le _⟩) hP hD hS hp (fun _ => rfl) (fun r_1 _ H locs hf hP hD hS => ?_)
  have hP : va_P D vwCl (wX k b ag as ap aq aa ab M N C Gr Pr Pa I Ln Sz dr pR pP pL pN qR qP qL qN aR aP aL aN bR bP bL bN) H := hP
  have hD : va_D A (wX k b ag as ap aq aa ab M N C Gr Pr Pa I Ln Sz dr pR pP pL pN qR qP qL qN aR aP aL aN bR bP bL bN) := hD
  refine lv_if_ne (tgt := 12) hx hb dX4_ways_7 (by decide) (fun c_2 => ?_) (fun c_2 => ?_)
  · have hf := hf.2 c_2
    refine lv_aload_n hx hb dX4_ways_12 rfl (lv_at hl 0 rfl) ?_
    refine va_get (D := D) (ci := 4) (C := RX4) (T := TX4) (N := 6) hx hb hts in_X4_ways_X4 hown hG.1 hP 0 rfl rfl 0 (by decide) (hts _ lk_X4_ways_10) (fun _ h9 => h9) rfl dX4_ways_13 ?_
    have hp : xPerm (wX k b ag as ap aq aa ab M N C Gr Pr Pa I Ln Sz dr pR pP pL pN qR qP qL qN aR aP aL aN bR bP bL bN) ((wG k ag M N C Gr Pr Pa) ++ ([((b 0, .inr (4, [.ref (ag 0), .ref (b 1), .ref (b 2), .ref (aa 0), .ref (ab 0), .ref (b 3)])) : Nat × va_E)] ++ ([((b 1, .inl (k 5, 4, rfs (fun i => as (2 * i)))) : Nat × va_E)] ++ ([((b 2, .inr (3, [.ref (ap 0), .ref (aq 0)])) : Nat × va_E)] ++ ([((b 3, .inl (k 0, 40, .inl dr)) : Nat × va_E)] ++ (wSS k as I Ln Sz ++ (wT k ap pR pP pL pN ++ (wT k aq qR qP qL qN ++ (wT k aa aR aP aL aN ++ wT k ab bR bP bL bN))))))))) := (xPermC fun _ x => by simp only [wX, wW, List.count_append]; omega)
    refine xCallV (w := wG k ag M N C Gr Pr Pa) (r := [((b 0, .inr (4, [.ref (ag 0), .ref (b 1), .ref (b 2), .ref (aa 0), .ref (ab 0), .ref (b 3)])) : Nat × va_E)] ++ ([((b 1, .inl (k 5, 4, rfs (fun i => as (2 * i)))) : Nat × va_E)] ++ ([((b 2, .inr (3, [.ref (ap 0), .ref (aq 0)])) : Nat × va_E)] ++ ([((b 3, .inl (k 0, 40, .inl dr)) : Nat × va_E)] ++ (wSS k as I Ln Sz ++ (wT k ap pR pP pL pN ++ (wT k aq qR qP qL qN ++ (wT k aa aR aP aL aN ++ wT k ab bR bP bL bN)))))))) (va_runV (As := []) (rest := []) ⟨hx, hb, hml, hown, hts⟩ (c_X0_growShapes ag M N C Gr Pr Pa hf) (cwV 0 hts gX4_ways_X0_growShapes rfl rfl rfl (by decide +kernel) ⟨Nat.le_of_ble_eq_true rfl, Nat.le_of_ble_eq_true rfl⟩) (xPreV hG hP hD hp (ci := 0) rfl (i := 0) rfl) rfl rfl hl.1 rfl (lv_room (Nat.le_of_ble_eq_true rfl)) dX4_ways_16 ⟨Nat.zero_le _, Nat.zero_le _⟩) hP hD hS hp (fun _ => wG_adr) (fun Pa_3 H locs hf hP hD hS => ?_)
    have hP : va_P D vwCl (wX k b ag as ap aq aa ab M N C Gr Pr Pa_3 I Ln Sz dr pR pP pL pN qR qP qL qN aR aP aL aN bR bP bL bN) H := xP_perm (xPermC fun _ x => by simp only [wX, wW, List.count_append]; omega) hP
    have hD : va_D A (wX k b ag as ap aq aa ab M N C Gr Pr Pa_3 I Ln Sz dr pR pP pL pN qR qP qL qN aR aP aL aN bR bP bL bN) := xD_perm (xPermC fun _ x => by simp only [wX, wW, List.count_append]; omega) hD
    refine lv_aload_n hx hb dX4_ways_19 rfl (lv_at hl 0 rfl) ?_
    refine va_get (D := D) (ci := 4) (C := RX4) (T := TX4) (N := 6) hx hb hts in_X4_ways_X4 hown hG.1 hP 0 rfl rfl 0 (by decide) (hts _ lk_X4_ways_10) (fun _ h9 => h9) rfl dX4_ways_20 ?_
    refine lv_iload_n hx hb dX4_ways_23 rfl (lv_at hl 1 rfl) ?_
    have hp : xPerm (wX k b ag as ap aq aa ab M N C Gr Pr Pa_3 I Ln Sz dr pR pP pL pN qR qP qL qN aR aP aL aN bR bP bL bN) ((wG k ag M N C Gr Pr Pa_3) ++ ([((b 0, .inr (4, [.ref (ag 0), .ref (b 1), .ref (b 2), .ref (aa 0), .ref (ab 0), .ref (b 3)])) : Nat × va_E)] ++ ([((b 1, .inl (k 5, 4, rfs (fun i => as (2 * i)))) : Nat × va_E)] ++ ([((b 2, .inr (3, [.ref (ap 0), .ref (aq 0)])) : Nat × va_E)] ++ ([((b 3, .inl (k 0, 40, .inl dr)) : Nat × va_E)] ++ (wSS k as I Ln Sz ++ (wT k ap pR pP pL pN ++ (wT k aq qR qP qL qN ++ (wT k aa aR aP aL aN ++ wT k ab bR bP bL bN))))))))) := (xPermC fun _ x => by simp only [wX, wW, List.count_append]; omega)
    refine xCallI (w := wG k ag M N C Gr Pr Pa_3) (r := [((b 0, .inr (4, [.ref (ag 0), .ref (b 1), .ref (b 2), .ref (aa 0), .ref (ab 0), .ref (b 3)])) : Nat × va_E)] ++ ([((b 1, .inl (k 5, 4, rfs (fun i => as (2 * i)))) : Nat × va_E)] ++ ([((b 2, .inr (3, [.ref (ap 0), .ref (aq 0)])) : Nat × va_E)] ++ ([((b 3, .inl (k 0, 40, .inl dr)) : Nat × va_E)] ++ (wSS k as I Ln Sz ++ (wT k ap pR pP pL pN ++ (wT k aq qR qP qL qN ++ (wT k aa aR aP aL aN ++ wT k ab bR bP bL bN)))))))) (va_runV (As := [.int x1]) (rest := []) ⟨hx, hb, hml, hown, hts⟩ (c_X0_firstPartsAtEnd ag M N C Gr Pr Pa_3 x1 hf) (cwV 1 hts gX4_ways_X0_firstPartsAtEnd rfl rfl rfl (by decide +kernel) ⟨Nat.le_of_ble_eq_true rfl, Nat.le_of_ble_eq_true rfl⟩) (xPreV hG hP hD hp (ci := 0) rfl (i := 0) rfl) rfl rfl hl.1 rfl (lv_room (Nat.le_of_ble_eq_true rfl)) dX4_ways_24 ⟨Nat.zero_le _, Nat.zero_le _⟩) hP hD hS hp (fun _ => wG_adr) (fun r_4 _ H locs hf hP hD hS => ?_)
    have hP : va_P D vwCl (wX k b ag as ap aq aa ab M N C Gr Pr Pa_3 I Ln Sz dr pR pP pL pN qR qP qL qN aR aP aL aN bR bP bL bN) H := xP_perm (xPermC fun _ x => by simp only [wX, wW, List.count_append]; omega) hP
    have hD : va_D A (wX k b ag as ap aq aa ab M N C Gr Pr Pa_3 I Ln Sz dr pR pP pL pN qR qP qL qN aR aP aL aN bR bP bL bN) := xD_perm (xPermC fun _ x => by simp only [wX, wW, List.count_append]; omega) hD
    exact W.iret (v := r_4) hx hb hr (fun t ht hW => ⟨⟨r_4, Pa_3, rfl, hf, xHp ht hP⟩, hS.F ht⟩) hS.2.2 dX4_ways_27 hlocks
  · have hf := hf.1 c_2
    refine lv_iconst (v := (-1)) hx hb dX4_ways_10 (by decide) ?_
    exact W.iret (v := (-1)) hx hb hr (fun t ht hW => ⟨⟨((-1) : Int32), Pa, rfl, hf, xHp ht hP⟩, hS.F ht⟩) hS.2.2 dX4_ways_11 hlocks

def p_X4_sums (M : Int32) (N : Int32) (C : Nat → Nat → Int32) (Pr : Nat → Nat → Int64) (x1 : Int32) (x2 : Int32) (post : Int64 → (Nat → Nat → Int64) → Prop) : Prop := p_X0_hasPlace M N x1 x2 (fun r_1 => ((r_1 = 0 → post (-1) Pr) ∧ (¬ r_1 = 0 → p_X0_productSum C Pr x1 x2 (fun r_4 Pr_3 => post r_4 Pr_3))))
theorem in_X4_sums_X4 : ∀ w ∈ u_ws RX4 TX4 6, w ∈ wsX4_sums := by decide +kernel
theorem lk_X4_sums_10 : Cond.fieldLink RX4 10 "GrowingCorners" "grid" "LGrowingCorners$Grid;" ∈ wsX4_sums := by decide +kernel
theorem mb_X4_sums_cl121 : Cond.constantLong RX4 121 (-1) ∈ wsX4_sums := by decide +kernel
set_option maxHeartbeats 4000000 in
set_option maxRecDepth 100000 in
theorem c_X4_sums {l : Launch} {D : va_G} {k : Nat → ClassId} (b : Nat → Nat) (ag : Nat → Nat) (as : Nat → Nat) (ap : Nat → Nat) (aq : Nat → Nat) (aa : Nat → Nat) (ab : Nat → Nat) (M : Int32) (N : Int32) (C : Nat → Nat → Int32) (Gr : Nat → Nat → Int32) (Pr : Nat → Nat → Int64) (Pa : Nat → Nat → Int32) (I : Nat → Nat → Int64) (Ln : Nat → Int32) (Sz : Nat → Int32) (dr : Nat → Int32) (pR : Int32) (pP : Int32) (pL : Nat → Int32) (pN : Nat → Nat → Int32) (qR : Int32) (qP : Int32) (qL : Nat → Int32) (qN : Nat → Nat → Int32) (aR : Int32) (aP : Int32) (aL : Nat → Int32) (aN : Nat → Nat → Int32) (bR : Int32) (bP : Int32) (bL : Nat → Int32) (bN : Nat → Nat → Int32) (x1 : Int32) (x2 : Int32) {post : Int64 → (Nat → Nat → Int64) → Prop} (hf : p_X4_sums M N C Pr x1 x2 post) : ctL l yX4_sums wsX4_sums ({ frames := 2, cells := 0, slots := 0, locals := 50 }) D k [.ref (b 0), .int x1, .int x2] (wX k b ag as ap aq aa ab M N C Gr Pr Pa I Ln Sz dr pR pP pL pN qR qP qL qN aR aP aL aN bR bP bL bN) (fun u : (Nat → Nat → Int64) => wX k b ag as ap aq aa ab M N C Gr u Pa I Ln Sz dr pR pP pL pN qR qP qL qN aR aP aL aN bR bP bL bN) (fun (r : Int64) (u : (Nat → Nat → Int64)) => post r u) := by
  refine Met.ofW (cc := cX4_sums) (maxL := 3) (ret := (some .long)) (by decide) rfl ?_
  intro p e s m args below meth c s₁ B hml hv
  obtain ⟨rfl, hP, hG, hD0⟩ := hv
  have C0 : xM p s m ([.ref (b 0), .int x1, .int x2] : List Value).toArray meth c cX4_sums 3 RX4 (some .long) wsX4_sums := ⟨B.exec, B.bytes, B.returns, atoms_spec (ws := wsX4_sums) B.pre, findClass_of_methodNamed B.named, B.notSynchronized, hml⟩
  obtain ⟨hx, hb, hr, hts, hown, hlocks, hml⟩ := id C0
  have hD := xSelf hD0
  have hS : va_S (xIn (wX k b ag as ap aq aa ab M N C Gr Pr Pa I Ln Sz dr pR pP pL pN qR qP qL qN aR aP aL aN bR bP bL bN)) s.heap s.heap [] := va_S.rf
  generalize xIn (wX k b ag as ap aq aa ab M N C Gr Pr Pa I Ln Sz dr pR pP pL pN qR qP qL qN aR aP aL aN bR bP bL bN) = A at hD hS ⊢
  have hl := lv_entry ([.ref (b 0), .int x1, .int x2]) (n := 3) (Nat.le_of_ble_eq_true rfl)
  rw [lg_entry_eq]
  generalize (lg_sl ([.ref (b 0), .int x1, .int x2]) ++ List.replicate (3 - (lg_sl ([.ref (b 0), .int x1, .int x2])).length) Slot.unset).toArray = ls at hl ⊢
  have hl : lv_has ls 3 [(0, .ref (b 0)), (1, .int x1), (2, .int x2)] := hl
  unfold p_X4_sums at hf
  refine lv_aload_n hx hb dX4_sums_0 rfl (lv_at hl 0 rfl) ?_
  refine va_get (D := D) (ci := 4) (C := RX4) (T := TX4) (N := 6) hx hb hts in_X4_sums_X4 hown hG.1 hP 0 rfl rfl 0 (by decide) (hts _ lk_X4_sums_10) (fun _ h9 => h9) rfl dX4_sums_1 ?_
  refine lv_iload_n hx hb dX4_sums_4 rfl (lv_at hl 1 rfl) ?_
  refine lv_iload_n hx hb dX4_sums_5 rfl (lv_at hl 2 rfl) ?_
  have hp : xPerm (wX k b ag as ap aq aa ab M N C Gr Pr Pa I Ln Sz dr pR pP pL pN qR qP qL qN aR aP aL aN bR bP bL bN) ((wG k ag M N C Gr Pr Pa) ++ ([((b 0, .inr (4, [.ref (ag 0), .ref (b 1), .ref (b 2), .ref (aa 0), .ref (ab 0), .ref (b 3)])) : Nat × va_E)] ++ ([((b 1, .inl (k 5, 4, rfs (fun i => as (2 * i)))) : Nat × va_E)] ++ ([((b 2, .inr (3, [.ref (ap 0), .ref (aq 0)])) : Nat × va_E)] ++ ([((b 3, .inl (k 0, 40, .inl dr)) : Nat × va_E)] ++ (wSS k as I Ln Sz ++ (wT k ap pR pP pL pN ++ (wT k aq qR qP qL qN ++ (wT k aa aR aP aL aN ++ wT k ab bR bP bL bN))))))))) := (xPermC fun _ x => by simp only [wX, wW, List.count_append]; omega)
  refine xCallI (w := wG k ag M N C Gr Pr Pa) (r := [((b 0, .inr (4, [.ref (ag 0), .ref (b 1), .ref (b 2), .ref (aa 0), .ref (ab 0), .ref (b 3)])) : Nat × va_E)] ++ ([((b 1, .inl (k 5, 4, rfs (fun i => as (2 * i)))) : Nat × va_E)] ++ ([((b 2, .inr (3, [.ref (ap 0), .ref (aq 0)])) : Nat × va_E)] ++ ([((b 3, .inl (k 0, 40, .inl dr)) : Nat × va_E)] ++ (wSS k as I Ln Sz ++ (wT k ap pR pP pL pN ++ (wT k aq qR qP qL qN ++ (wT k aa aR aP aL aN ++ wT k ab bR bP bL bN)))))))) (va_runV (As := [.int x1, .int x2]) (rest := []) ⟨hx, hb, hml, hown, hts⟩ (c_X0_hasPlace ag M N C Gr Pr Pa x1 x2 hf) (cwV 2 hts gX4_sums_X0_hasPlace rfl rfl rfl (by decide +kernel) ⟨Nat.le_of_ble_eq_true rfl, Nat.le_of_ble_eq_true rfl⟩) (xPreV hG hP hD hp (ci := 0) rfl (i := 0) rfl) rfl rfl hl.1 rfl (lv_room (Nat.le_of_ble_eq_true rfl)) dX4_sums_6 ⟨Nat.zero_le _, Nat.zero_le _⟩) hP hD hS hp (fun _ => wG_adr) (fun r_1 _ H locs hf hP hD hS => ?_)
  have hP : va_P D vwCl (wX k b ag as ap aq aa ab M N C Gr Pr Pa I Ln Sz dr pR pP pL pN qR qP qL qN aR aP aL aN bR bP bL bN) H := xP_perm (xPermC fun _ x => by simp only [wX, wW, List.count_append]; omega) hP
  have hD : va_D A (wX k b ag as ap aq aa ab M N C Gr Pr Pa I Ln Sz dr pR pP pL pN qR qP qL qN aR aP aL aN bR bP bL bN) := xD_perm (xPermC fun _ x => by simp only [wX, wW, List.count_append]; omega) hD
  refine lv_if_ne (tgt := 16) hx hb dX4_sums_9 (by decide) (fun c_2 => ?_) (fun c_2 => ?_)
  · have hf := hf.2 c_2
    refine lv_aload_n hx hb dX4_sums_16 rfl (lv_at hl 0 rfl) ?_
    refine va_get (D := D) (ci := 4) (C := RX4) (T := TX4) (N := 6) hx hb hts in_X4_sums_X4 hown hG.1 hP 0 rfl rfl 0 (by decide) (hts _ lk_X4_sums_10) (fun _ h9 => h9) rfl dX4_sums_17 ?_
    refine lv_iload_n hx hb dX4_sums_20 rfl (lv_at hl 1 rfl) ?_
    refine lv_iload_n hx hb dX4_sums_21 rfl (lv_at hl 2 rfl) ?_
    have hp : xPerm (wX k b ag as ap aq aa ab M N C Gr Pr Pa I Ln Sz dr pR pP pL pN qR qP qL qN aR aP aL aN bR bP bL bN) ((wG k ag M N C Gr Pr Pa) ++ ([((b 0, .inr (4, [.ref (ag 0), .ref (b 1), .ref (b 2), .ref (aa 0), .ref (ab 0), .ref (b 3)])) : Nat × va_E)] ++ ([((b 1, .inl (k 5, 4, rfs (fun i => as (2 * i)))) : Nat × va_E)] ++ ([((b 2, .inr (3, [.ref (ap 0), .ref (aq 0)])) : Nat × va_E)] ++ ([((b 3, .inl (k 0, 40, .inl dr)) : Nat × va_E)] ++ (wSS k as I Ln Sz ++ (wT k ap pR pP pL pN ++ (wT k aq qR qP qL qN ++ (wT k aa aR aP aL aN ++ wT k ab bR bP bL bN))))))))) := (xPermC fun _ x => by simp only [wX, wW, List.count_append]; omega)
    refine xCallL (w := wG k ag M N C Gr Pr Pa) (r := [((b 0, .inr (4, [.ref (ag 0), .ref (b 1), .ref (b 2), .ref (aa 0), .ref (ab 0), .ref (b 3)])) : Nat × va_E)] ++ ([((b 1, .inl (k 5, 4, rfs (fun i => as (2 * i)))) : Nat × va_E)] ++ ([((b 2, .inr (3, [.ref (ap 0), .ref (aq 0)])) : Nat × va_E)] ++ ([((b 3, .inl (k 0, 40, .inl dr)) : Nat × va_E)] ++ (wSS k as I Ln Sz ++ (wT k ap pR pP pL pN ++ (wT k aq qR qP qL qN ++ (wT k aa aR aP aL aN ++ wT k ab bR bP bL bN)))))))) (va_runV (As := [.int x1, .int x2]) (rest := []) ⟨hx, hb, hml, hown, hts⟩ (c_X0_productSum ag M N C Gr Pr Pa x1 x2 hf) (cwV 2 hts gX4_sums_X0_productSum rfl rfl rfl (by decide +kernel) ⟨Nat.le_of_ble_eq_true rfl, Nat.le_of_ble_eq_true rfl⟩) (xPreV hG hP hD hp (ci := 0) rfl (i := 0) rfl) rfl rfl hl.1 rfl (lv_room (Nat.le_of_ble_eq_true rfl)) dX4_sums_22 ⟨Nat.zero_le _, Nat.zero_le _⟩) hP hD hS hp (fun _ => wG_adr) (fun r_4 Pr_3 H locs hf hP hD hS => ?_)
    have hP : va_P D vwCl (wX k b ag as ap aq aa ab M N C Gr Pr_3 Pa I Ln Sz dr pR pP pL pN qR qP qL qN aR aP aL aN bR bP bL bN) H := xP_perm (xPermC fun _ x => by simp only [wX, wW, List.count_append]; omega) hP
    have hD : va_D A (wX k b ag as ap aq aa ab M N C Gr Pr_3 Pa I Ln Sz dr pR pP pL pN qR qP qL qN aR aP aL aN bR bP bL bN) := xD_perm (xPermC fun _ x => by simp only [wX, wW, List.count_append]; omega) hD
    exact W.lret (v := r_4) hx hb hr (fun t ht hW => ⟨⟨r_4, Pr_3, rfl, hf, xHp ht hP⟩, hS.F ht⟩) hS.2.2 dX4_sums_25 hlocks
  · have hf := hf.1 c_2
    refine lv_ldc2 (v := (-1)) hx hb hown (hts _ mb_X4_sums_cl121) dX4_sums_12 ?_
    exact W.lret (v := (-1)) hx hb hr (fun t ht hW => ⟨⟨((-1) : Int64), Pr, rfl, hf, xHp ht hP⟩, hS.F ht⟩) hS.2.2 dX4_sums_15 hlocks

def p_X4_served (M : Int32) (N : Int32) (C : Nat → Nat → Int32) (Gr : Nat → Nat → Int32) (x1 : Int32) (x2 : Int32) (post : Int32 → (Nat → Nat → Int32) → Prop) : Prop := p_X0_hasPlace M N x1 0 (fun r_1 => ((r_1 = 0 → post (-1) Gr) ∧ (¬ r_1 = 0 → ((0 ≤ x2 → p_X0_countServed N C Gr x1 x2 (fun r_5 Gr_4 => post r_5 Gr_4)) ∧ (¬ 0 ≤ x2 → post (-1) Gr)))))
theorem in_X4_served_X4 : ∀ w ∈ u_ws RX4 TX4 6, w ∈ wsX4_served := by decide +kernel
theorem lk_X4_served_10 : Cond.fieldLink RX4 10 "GrowingCorners" "grid" "LGrowingCorners$Grid;" ∈ wsX4_served := by decide +kernel
set_option maxHeartbeats 4000000 in
set_option maxRecDepth 100000 in
theorem c_X4_served {l : Launch} {D : va_G} {k : Nat → ClassId} (b : Nat → Nat) (ag : Nat → Nat) (as : Nat → Nat) (ap : Nat → Nat) (aq : Nat → Nat) (aa : Nat → Nat) (ab : Nat → Nat) (M : Int32) (N : Int32) (C : Nat → Nat → Int32) (Gr : Nat → Nat → Int32) (Pr : Nat → Nat → Int64) (Pa : Nat → Nat → Int32) (I : Nat → Nat → Int64) (Ln : Nat → Int32) (Sz : Nat → Int32) (dr : Nat → Int32) (pR : Int32) (pP : Int32) (pL : Nat → Int32) (pN : Nat → Nat → Int32) (qR : Int32) (qP : Int32) (qL : Nat → Int32) (qN : Nat → Nat → Int32) (aR : Int32) (aP : Int32) (aL : Nat → Int32) (aN : Nat → Nat → Int32) (bR : Int32) (bP : Int32) (bL : Nat → Int32) (bN : Nat → Nat → Int32) (x1 : Int32) (x2 : Int32) {post : Int32 → (Nat → Nat → Int32) → Prop} (hf : p_X4_served M N C Gr x1 x2 post) : ctI l yX4_served wsX4_served ({ frames := 3, cells := 0, slots := 0, locals := 76 }) D k [.ref (b 0), .int x1, .int x2] (wX k b ag as ap aq aa ab M N C Gr Pr Pa I Ln Sz dr pR pP pL pN qR qP qL qN aR aP aL aN bR bP bL bN) (fun u : (Nat → Nat → Int32) => wX k b ag as ap aq aa ab M N C u Pr Pa I Ln Sz dr pR pP pL pN qR qP qL qN aR aP aL aN bR bP bL bN) (fun (r : Int32) (u : (Nat → Nat → Int32)) => post r u) := by
  refine Met.ofW (cc := cX4_served) (maxL := 3) (ret := (some .int)) (by decide) rfl ?_
  intro p e s m args below meth c s₁ B hml hv
  obtain ⟨rfl, hP, hG, hD0⟩ := hv
  have C0 : xM p s m ([.ref (b 0), .int x1, .int x2] : List Value).toArray meth c cX4_served 3 RX4 (some .int) wsX4_served := ⟨B.exec, B.bytes, B.returns, atoms_spec (ws := wsX4_served) B.pre, findClass_of_methodNamed B.named, B.notSynchronized, hml⟩
  obtain ⟨hx, hb, hr, hts, hown, hlocks, hml⟩ := id C0
  have hD := xSelf hD0
  have hS : va_S (xIn (wX k b ag as ap aq aa ab M N C Gr Pr Pa I Ln Sz dr pR pP pL pN qR qP qL qN aR aP aL aN bR bP bL bN)) s.heap s.heap [] := va_S.rf
  generalize xIn (wX k b ag as ap aq aa ab M N C Gr Pr Pa I Ln Sz dr pR pP pL pN qR qP qL qN aR aP aL aN bR bP bL bN) = A at hD hS ⊢
  have hl := lv_entry ([.ref (b 0), .int x1, .int x2]) (n := 3) (Nat.le_of_ble_eq_true rfl)
  rw [lg_entry_eq]
  generalize (lg_sl ([.ref (b 0), .int x1, .int x2]) ++ List.replicate (3 - (lg_sl ([.ref (b 0), .int x1, .int x2])).length) Slot.unset).toArray = ls at hl ⊢
  have hl : lv_has ls 3 [(0, .ref (b 0)), (1, .int x1), (2, .int x2)] := hl
  unfold p_X4_served at hf
  refine lv_aload_n hx hb dX4_served_0 rfl (lv_at hl 0 rfl) ?_
  refine va_get (D := D) (ci := 4) (C := RX4) (T := TX4) (N := 6) hx hb hts in_X4_served_X4 hown hG.1 hP 0 rfl rfl 0 (by decide) (hts _ lk_X4_served_10) (fun _ h9 => h9) rfl dX4_served_1 ?_
  refine lv_iload_n hx hb dX4_served_4 rfl (lv_at hl 1 rfl) ?_
  refine lv_iconst (v := 0) hx hb dX4_served_5 (by decide) ?_
  have hp : xPerm (wX k b ag as ap aq aa ab M N C Gr Pr Pa I Ln Sz dr pR pP pL pN qR qP qL qN aR aP aL aN bR bP bL bN) ((wG k ag M N C Gr Pr Pa) ++ ([((b 0, .inr (4, [.ref (ag 0), .ref (b 1), .ref (b 2), .ref (aa 0), .ref (ab 0), .ref (b 3)])) : Nat × va_E)] ++ ([((b 1, .inl (k 5, 4, rfs (fun i => as (2 * i)))) : Nat × va_E)] ++ ([((b 2, .inr (3, [.ref (ap 0), .ref (aq 0)])) : Nat × va_E)] ++ ([((b 3, .inl (k 0, 40, .inl dr)) : Nat × va_E)] ++ (wSS k as I Ln Sz ++ (wT k ap pR pP pL pN ++ (wT k aq qR qP qL qN ++ (wT k aa aR aP aL aN ++ wT k ab bR bP bL bN))))))))) := (xPermC fun _ x => by simp only [wX, wW, List.count_append]; omega)
  refine xCallI (w := wG k ag M N C Gr Pr Pa) (r := [((b 0, .inr (4, [.ref (ag 0), .ref (b 1), .ref (b 2), .ref (aa 0), .ref (ab 0), .ref (b 3)])) : Nat × va_E)] ++ ([((b 1, .inl (k 5, 4, rfs (fun i => as (2 * i)))) : Nat × va_E)] ++ ([((b 2, .inr (3, [.ref (ap 0), .ref (aq 0)])) : Nat × va_E)] ++ ([((b 3, .inl (k 0, 40, .inl dr)) : Nat × va_E)] ++ (wSS k as I Ln Sz ++ (wT k ap pR pP pL pN ++ (wT k aq qR qP qL qN ++ (wT k aa aR aP aL aN ++ wT k ab bR bP bL bN)))))))) (va_runV (As := [.int x1, .int 0]) (rest := []) ⟨hx, hb, hml, hown, hts⟩ (c_X0_hasPlace ag M N C Gr Pr Pa x1 0 hf) (cwV 2 hts gX4_served_X0_hasPlace rfl rfl rfl (by decide +kernel) ⟨Nat.le_of_ble_eq_true rfl, Nat.le_of_ble_eq_true rfl⟩) (xPreV hG hP hD hp (ci := 0) rfl (i := 0) rfl) rfl rfl hl.1 rfl (lv_room (Nat.le_of_ble_eq_true rfl)) dX4_served_6 ⟨Nat.zero_le _, Nat.zero_le _⟩) hP hD hS hp (fun _ => wG_adr) (fun r_1 _ H locs hf hP hD hS => ?_)
  have hP : va_P D vwCl (wX k b ag as ap aq aa ab M N C Gr Pr Pa I Ln Sz dr pR pP pL pN qR qP qL qN aR aP aL aN bR bP bL bN) H := xP_perm (xPermC fun _ x => by simp only [wX, wW, List.count_append]; omega) hP
  have hD : va_D A (wX k b ag as ap aq aa ab M N C Gr Pr Pa I Ln Sz dr pR pP pL pN qR qP qL qN aR aP aL aN bR bP bL bN) := xD_perm (xPermC fun _ x => by simp only [wX, wW, List.count_append]; omega) hD
  refine lv_if_eq (tgt := 16) hx hb dX4_served_9 (by decide) (fun c_2 => ?_) (fun c_2 => ?_)
  · have hf := hf.1 c_2
    refine lv_iconst (v := (-1)) hx hb dX4_served_16 (by decide) ?_
    exact W.iret (v := (-1)) hx hb hr (fun t ht hW => ⟨⟨((-1) : Int32), Gr, rfl, hf, xHp ht hP⟩, hS.F ht⟩) hS.2.2 dX4_served_17 hlocks
  · have hf := hf.2 c_2
    refine lv_iload_n hx hb dX4_served_12 rfl (lv_at hl 2 rfl) ?_
    refine lv_if_ge (tgt := 18) hx hb dX4_served_13 (by decide) (fun c_3 => ?_) (fun c_3 => ?_)
    · have hf := hf.1 c_3
      refine lv_aload_n hx hb dX4_served_18 rfl (lv_at hl 0 rfl) ?_
      refine va_get (D := D) (ci := 4) (C := RX4) (T := TX4) (N := 6) hx hb hts in_X4_served_X4 hown hG.1 hP 0 rfl rfl 0 (by decide) (hts _ lk_X4_served_10) (fun _ h9 => h9) rfl dX4_served_19 ?_
      refine lv_iload_n hx hb dX4_served_22 rfl (lv_at hl 1 rfl) ?_
      refine lv_iload_n hx hb dX4_served_23 rfl (lv_at hl 2 rfl) ?_
      have hp : xPerm (wX k b ag as ap aq aa ab M N C Gr Pr Pa I Ln Sz dr pR pP pL pN qR qP qL qN aR aP aL aN bR bP bL bN) ((wG k ag M N C Gr Pr Pa) ++ ([((b 0, .inr (4, [.ref (ag 0), .ref (b 1), .ref (b 2), .ref (aa 0), .ref (ab 0), .ref (b 3)])) : Nat × va_E)] ++ ([((b 1, .inl (k 5, 4, rfs (fun i => as (2 * i)))) : Nat × va_E)] ++ ([((b 2, .inr (3, [.ref (ap 0), .ref (aq 0)])) : Nat × va_E)] ++ ([((b 3, .inl (k 0, 40, .inl dr)) : Nat × va_E)] ++ (wSS k as I Ln Sz ++ (wT k ap pR pP pL pN ++ (wT k aq qR qP qL qN ++ (wT k aa aR aP aL aN ++ wT k ab bR bP bL bN))))))))) := (xPermC fun _ x => by simp only [wX, wW, List.count_append]; omega)
      refine xCallI (w := wG k ag M N C Gr Pr Pa) (r := [((b 0, .inr (4, [.ref (ag 0), .ref (b 1), .ref (b 2), .ref (aa 0), .ref (ab 0), .ref (b 3)])) : Nat × va_E)] ++ ([((b 1, .inl (k 5, 4, rfs (fun i => as (2 * i)))) : Nat × va_E)] ++ ([((b 2, .inr (3, [.ref (ap 0), .ref (aq 0)])) : Nat × va_E)] ++ ([((b 3, .inl (k 0, 40, .inl dr)) : Nat × va_E)] ++ (wSS k as I Ln Sz ++ (wT k ap pR pP pL pN ++ (wT k aq qR qP qL qN ++ (wT k aa aR aP aL aN ++ wT k ab bR bP bL bN)))))))) (va_runV (As := [.int x1, .int x2]) (rest := []) ⟨hx, hb, hml, hown, hts⟩ (c_X0_countServed ag M N C Gr Pr Pa x1 x2 hf) (cwV 2 hts gX4_served_X0_countServed rfl rfl rfl (by decide +kernel) ⟨Nat.le_of_ble_eq_true rfl, Nat.le_of_ble_eq_true rfl⟩) (xPreV hG hP hD hp (ci := 0) rfl (i := 0) rfl) rfl rfl hl.1 rfl (lv_room (Nat.le_of_ble_eq_true rfl)) dX4_served_24 ⟨Nat.zero_le _, Nat.zero_le _⟩) hP hD hS hp (fun _ => wG_adr) (fun r_5 Gr_4 H locs hf hP hD hS => ?_)
      have hP : va_P D vwCl (wX k b ag as ap aq aa ab M N C Gr_4 Pr Pa I Ln Sz dr pR pP pL pN qR qP qL qN aR aP aL aN bR bP bL bN) H := xP_perm (xPermC fun _ x => by simp only [wX, wW, List.count_append]; omega) hP
      have hD : va_D A (wX k b ag as ap aq aa ab M N C Gr_4 Pr Pa I Ln Sz dr pR pP pL pN qR qP qL qN aR aP aL aN bR bP bL bN) := xD_perm (xPermC fun _ x => by simp only [wX, wW, List.count_append]; omega) hD
      exact W.iret (v := r_5) hx hb hr (fun t ht hW => ⟨⟨r_5, Gr_4, rfl, hf, xHp ht hP⟩, hS.F ht⟩) hS.2.2 dX4_served_27 hlocks
    · have hf := hf.2 c_3
      refine lv_iconst (v := (-1)) hx hb dX4_served_16 (by decide) ?_
      exact W.iret (v := (-1)) hx hb hr (fun t ht hW => ⟨⟨((-1) : Int32), Gr, rfl, hf, xHp ht hP⟩, hS.F ht⟩) hS.2.2 dX4_served_17 hlocks

def p_X4_line (M : Int32) (N : Int32) (C : Nat → Nat → Int32) (Gr : Nat → Nat → Int32) (x1 : Int32) (post : Int32 → (Nat → Nat → Int32) → Prop) : Prop := p_X0_lastStep M N (fun r_1 => p_X4_isWithin x1 0 r_1 (fun r_2 => ((r_2 = 0 → post (-1) Gr) ∧ (¬ r_2 = 0 → p_X0_placeOnLine M N C Gr x1 (fun r_5 Gr_4 => post r_5 Gr_4)))))
theorem in_X4_line_X4 : ∀ w ∈ u_ws RX4 TX4 6, w ∈ wsX4_line := by decide +kernel
theorem lk_X4_line_10 : Cond.fieldLink RX4 10 "GrowingCorners" "grid" "LGrowingCorners$Grid;" ∈ wsX4_line := by decide +kernel
set_option maxHeartbeats 4000000 in
set_option maxRecDepth 100000 in
theorem c_X4_line {l : Launch} {D : va_G} {k : Nat → ClassId} (b : Nat → Nat) (ag : Nat → Nat) (as : Nat → Nat) (ap : Nat → Nat) (aq : Nat → Nat) (aa : Nat → Nat) (ab : Nat → Nat) (M : Int32) (N : Int32) (C : Nat → Nat → Int32) (Gr : Nat → Nat → Int32) (Pr : Nat → Nat → Int64) (Pa : Nat → Nat → Int32) (I : Nat → Nat → Int64) (Ln : Nat → Int32) (Sz : Nat → Int32) (dr : Nat → Int32) (pR : Int32) (pP : Int32) (pL : Nat → Int32) (pN : Nat → Nat → Int32) (qR : Int32) (qP : Int32) (qL : Nat → Int32) (qN : Nat → Nat → Int32) (aR : Int32) (aP : Int32) (aL : Nat → Int32) (aN : Nat → Nat → Int32) (bR : Int32) (bP : Int32) (bL : Nat → Int32) (bN : Nat → Nat → Int32) (x1 : Int32) {post : Int32 → (Nat → Nat → Int32) → Prop} (hf : p_X4_line M N C Gr x1 post) : ctI l yX4_line wsX4_line ({ frames := 4, cells := 0, slots := 0, locals := 90 }) D k [.ref (b 0), .int x1] (wX k b ag as ap aq aa ab M N C Gr Pr Pa I Ln Sz dr pR pP pL pN qR qP qL qN aR aP aL aN bR bP bL bN) (fun u : (Nat → Nat → Int32) => wX k b ag as ap aq aa ab M N C u Pr Pa I Ln Sz dr pR pP pL pN qR qP qL qN aR aP aL aN bR bP bL bN) (fun (r : Int32) (u : (Nat → Nat → Int32)) => post r u) := by
  refine Met.ofW (cc := cX4_line) (maxL := 2) (ret := (some .int)) (by decide) rfl ?_
  intro p e s m args below meth c s₁ B hml hv
  obtain ⟨rfl, hP, hG, hD0⟩ := hv
  have C0 : xM p s m ([.ref (b 0), .int x1] : List Value).toArray meth c cX4_line 2 RX4 (some .int) wsX4_line := ⟨B.exec, B.bytes, B.returns, atoms_spec (ws := wsX4_line) B.pre, findClass_of_methodNamed B.named, B.notSynchronized, hml⟩
  obtain ⟨hx, hb, hr, hts, hown, hlocks, hml⟩ := id C0
  have hD := xSelf hD0
  have hS : va_S (xIn (wX k b ag as ap aq aa ab M N C Gr Pr Pa I Ln Sz dr pR pP pL pN qR qP qL qN aR aP aL aN bR bP bL bN)) s.heap s.heap [] := va_S.rf
  generalize xIn (wX k b ag as ap aq aa ab M N C Gr Pr Pa I Ln Sz dr pR pP pL pN qR qP qL qN aR aP aL aN bR bP bL bN) = A at hD hS ⊢
  have hl := lv_entry ([.ref (b 0), .int x1]) (n := 2) (Nat.le_of_ble_eq_true rfl)
  rw [lg_entry_eq]
  generalize (lg_sl ([.ref (b 0), .int x1]) ++ List.replicate (2 - (lg_sl ([.ref (b 0), .int x1])).length) Slot.unset).toArray = ls at hl ⊢
  have hl : lv_has ls 2 [(0, .ref (b 0)), (1, .int x1)] := hl
  unfold p_X4_line at hf
  refine lv_iload_n hx hb dX4_line_0 rfl (lv_at hl 1 rfl) ?_
  refine lv_iconst (v := 0) hx hb dX4_line_1 (by decide) ?_
  refine lv_aload_n hx hb dX4_line_2 rfl (lv_at hl 0 rfl) ?_
  refine va_get (D := D) (ci := 4) (C := RX4) (T := TX4) (N := 6) hx hb hts in_X4_line_X4 hown hG.1 hP 0 rfl rfl 0 (by decide) (hts _ lk_X4_line_10) (fun _ h9 => h9) rfl dX4_line_3 ?_
  have hp : xPerm (wX k b ag as ap aq aa ab M N C Gr Pr Pa I Ln Sz dr pR pP pL pN qR qP qL qN aR aP aL aN bR bP bL bN) ((wG k ag M N C Gr Pr Pa) ++ ([((b 0, .inr (4, [.ref (ag 0), .ref (b 1), .ref (b 2), .ref (aa 0), .ref (ab 0), .ref (b 3)])) : Nat × va_E)] ++ ([((b 1, .inl (k 5, 4, rfs (fun i => as (2 * i)))) : Nat × va_E)] ++ ([((b 2, .inr (3, [.ref (ap 0), .ref (aq 0)])) : Nat × va_E)] ++ ([((b 3, .inl (k 0, 40, .inl dr)) : Nat × va_E)] ++ (wSS k as I Ln Sz ++ (wT k ap pR pP pL pN ++ (wT k aq qR qP qL qN ++ (wT k aa aR aP aL aN ++ wT k ab bR bP bL bN))))))))) := (xPermC fun _ x => by simp only [wX, wW, List.count_append]; omega)
  refine xCallI (w := wG k ag M N C Gr Pr Pa) (r := [((b 0, .inr (4, [.ref (ag 0), .ref (b 1), .ref (b 2), .ref (aa 0), .ref (ab 0), .ref (b 3)])) : Nat × va_E)] ++ ([((b 1, .inl (k 5, 4, rfs (fun i => as (2 * i)))) : Nat × va_E)] ++ ([((b 2, .inr (3, [.ref (ap 0), .ref (aq 0)])) : Nat × va_E)] ++ ([((b 3, .inl (k 0, 40, .inl dr)) : Nat × va_E)] ++ (wSS k as I Ln Sz ++ (wT k ap pR pP pL pN ++ (wT k aq qR qP qL qN ++ (wT k aa aR aP aL aN ++ wT k ab bR bP bL bN)))))))) (va_runV (As := []) (rest := [.int 0, .int x1]) ⟨hx, hb, hml, hown, hts⟩ (c_X0_lastStep ag M N C Gr Pr Pa hf) (cwV 0 hts gX4_line_X0_lastStep rfl rfl rfl (by decide +kernel) ⟨Nat.le_of_ble_eq_true rfl, Nat.le_of_ble_eq_true rfl⟩) (xPreV hG hP hD hp (ci := 0) rfl (i := 0) rfl) rfl rfl hl.1 rfl (lv_room (Nat.le_of_ble_eq_true rfl)) dX4_line_6 ⟨Nat.zero_le _, Nat.zero_le _⟩) hP hD hS hp (fun _ => wG_adr) (fun r_1 _ H locs hf hP hD hS => ?_)
  have hP : va_P D vwCl (wX k b ag as ap aq aa ab M N C Gr Pr Pa I Ln Sz dr pR pP pL pN qR qP qL qN aR aP aL aN bR bP bL bN) H := xP_perm (xPermC fun _ x => by simp only [wX, wW, List.count_append]; omega) hP
  have hD : va_D A (wX k b ag as ap aq aa ab M N C Gr Pr Pa I Ln Sz dr pR pP pL pN qR qP qL qN aR aP aL aN bR bP bL bN) := xD_perm (xPermC fun _ x => by simp only [wX, wW, List.count_append]; omega) hD
  have hp : xPerm (wX k b ag as ap aq aa ab M N C Gr Pr Pa I Ln Sz dr pR pP pL pN qR qP qL qN aR aP aL aN bR bP bL bN) (([]) ++ (wX k b ag as ap aq aa ab M N C Gr Pr Pa I Ln Sz dr pR pP pL pN qR qP qL qN aR aP aL aN bR bP bL bN)) := (List.Perm.refl _)
  refine xCallI (w := []) (r := wX k b ag as ap aq aa ab M N C Gr Pr Pa I Ln Sz dr pR pP pL pN qR qP qL qN aR aP aL aN bR bP bL bN) (va_runS (As := [.int x1, .int 0, .int r_1]) (rest := []) ⟨hx, hb, hml, hown, hts⟩ (c_X4_isWithin x1 0 r_1 hf) (va_cwS 3 hts gX4_line_X4_isWithin rfl rfl rfl (by decide +kernel) ⟨Nat.le_of_ble_eq_true rfl, Nat.le_of_ble_eq_true rfl⟩) (xPreS hG hP hD hp) rfl rfl hl.1 rfl (lv_room (Nat.le_of_ble_eq_true rfl)) dX4_line_9 ⟨Nat.zero_le _, Nat.zero_le _⟩) hP hD hS hp (fun _ => rfl) (fun r_2 _ H locs hf hP hD hS => ?_)
  have hP : va_P D vwCl (wX k b ag as ap aq aa ab M N C Gr Pr Pa I Ln Sz dr pR pP pL pN qR qP qL qN aR aP aL aN bR bP bL bN) H := hP
  have hD : va_D A (wX k b ag as ap aq aa ab M N C Gr Pr Pa I Ln Sz dr pR pP pL pN qR qP qL qN aR aP aL aN bR bP bL bN) := hD
  refine lv_if_ne (tgt := 17) hx hb dX4_line_12 (by decide) (fun c_3 => ?_) (fun c_3 => ?_)
  · have hf := hf.2 c_3
    refine lv_aload_n hx hb dX4_line_17 rfl (lv_at hl 0 rfl) ?_
    refine va_get (D := D) (ci := 4) (C := RX4) (T := TX4) (N := 6) hx hb hts in_X4_line_X4 hown hG.1 hP 0 rfl rfl 0 (by decide) (hts _ lk_X4_line_10) (fun _ h9 => h9) rfl dX4_line_18 ?_
    refine lv_iload_n hx hb dX4_line_21 rfl (lv_at hl 1 rfl) ?_
    have hp : xPerm (wX k b ag as ap aq aa ab M N C Gr Pr Pa I Ln Sz dr pR pP pL pN qR qP qL qN aR aP aL aN bR bP bL bN) ((wG k ag M N C Gr Pr Pa) ++ ([((b 0, .inr (4, [.ref (ag 0), .ref (b 1), .ref (b 2), .ref (aa 0), .ref (ab 0), .ref (b 3)])) : Nat × va_E)] ++ ([((b 1, .inl (k 5, 4, rfs (fun i => as (2 * i)))) : Nat × va_E)] ++ ([((b 2, .inr (3, [.ref (ap 0), .ref (aq 0)])) : Nat × va_E)] ++ ([((b 3, .inl (k 0, 40, .inl dr)) : Nat × va_E)] ++ (wSS k as I Ln Sz ++ (wT k ap pR pP pL pN ++ (wT k aq qR qP qL qN ++ (wT k aa aR aP aL aN ++ wT k ab bR bP bL bN))))))))) := (xPermC fun _ x => by simp only [wX, wW, List.count_append]; omega)
    refine xCallI (w := wG k ag M N C Gr Pr Pa) (r := [((b 0, .inr (4, [.ref (ag 0), .ref (b 1), .ref (b 2), .ref (aa 0), .ref (ab 0), .ref (b 3)])) : Nat × va_E)] ++ ([((b 1, .inl (k 5, 4, rfs (fun i => as (2 * i)))) : Nat × va_E)] ++ ([((b 2, .inr (3, [.ref (ap 0), .ref (aq 0)])) : Nat × va_E)] ++ ([((b 3, .inl (k 0, 40, .inl dr)) : Nat × va_E)] ++ (wSS k as I Ln Sz ++ (wT k ap pR pP pL pN ++ (wT k aq qR qP qL qN ++ (wT k aa aR aP aL aN ++ wT k ab bR bP bL bN)))))))) (va_runV (As := [.int x1]) (rest := []) ⟨hx, hb, hml, hown, hts⟩ (c_X0_placeOnLine ag M N C Gr Pr Pa x1 hf) (cwV 1 hts gX4_line_X0_placeOnLine rfl rfl rfl (by decide +kernel) ⟨Nat.le_of_ble_eq_true rfl, Nat.le_of_ble_eq_true rfl⟩) (xPreV hG hP hD hp (ci := 0) rfl (i := 0) rfl) rfl rfl hl.1 rfl (lv_room (Nat.le_of_ble_eq_true rfl)) dX4_line_22 ⟨Nat.zero_le _, Nat.zero_le _⟩) hP hD hS hp (fun _ => wG_adr) (fun r_5 Gr_4 H locs hf hP hD hS => ?_)
    have hP : va_P D vwCl (wX k b ag as ap aq aa ab M N C Gr_4 Pr Pa I Ln Sz dr pR pP pL pN qR qP qL qN aR aP aL aN bR bP bL bN) H := xP_perm (xPermC fun _ x => by simp only [wX, wW, List.count_append]; omega) hP
    have hD : va_D A (wX k b ag as ap aq aa ab M N C Gr_4 Pr Pa I Ln Sz dr pR pP pL pN qR qP qL qN aR aP aL aN bR bP bL bN) := xD_perm (xPermC fun _ x => by simp only [wX, wW, List.count_append]; omega) hD
    exact W.iret (v := r_5) hx hb hr (fun t ht hW => ⟨⟨r_5, Gr_4, rfl, hf, xHp ht hP⟩, hS.F ht⟩) hS.2.2 dX4_line_25 hlocks
  · have hf := hf.1 c_3
    refine lv_iconst (v := (-1)) hx hb dX4_line_15 (by decide) ?_
    exact W.iret (v := (-1)) hx hb hr (fun t ht hW => ⟨⟨((-1) : Int32), Gr, rfl, hf, xHp ht hP⟩, hS.F ht⟩) hS.2.2 dX4_line_16 hlocks

def p_X4_letter (pR : Int32) (pP : Int32) (pL : Nat → Int32) (pN : Nat → Nat → Int32) (qR : Int32) (qP : Int32) (qL : Nat → Int32) (qN : Nat → Nat → Int32) (x1 : Int32) (post : Int32 → Int32 → Int32 → (Nat → Int32) → (Nat → Nat → Int32) → Int32 → Int32 → (Nat → Int32) → (Nat → Nat → Int32) → Prop) : Prop := p_X4_isWithin x1 1 9 (fun r_1 => ((r_1 = 0 → post (-1) pR pP pL pN qR qP qL qN) ∧ (¬ r_1 = 0 → p_X3_letterCount pP (fun r_3 => ((r_3 < 40 → p_X3_takeLetter pR pP pL pN qR qP qL qN x1 (fun pR_5 pP_6 pL_7 pN_8 qR_9 qP_10 qL_11 qN_12 => p_X3_letterCount pP_6 (fun r_13 => post r_13 pR_5 pP_6 pL_7 pN_8 qR_9 qP_10 qL_11 qN_12))) ∧ (¬ r_3 < 40 → post (-3) pR pP pL pN qR qP qL qN))))))
theorem in_X4_letter_X4 : ∀ w ∈ u_ws RX4 TX4 6, w ∈ wsX4_letter := by decide +kernel
theorem lk_X4_letter_26 : Cond.fieldLink RX4 26 "GrowingCorners" "word" "LGrowingCorners$Word;" ∈ wsX4_letter := by decide +kernel
set_option maxHeartbeats 4000000 in
set_option maxRecDepth 100000 in
theorem c_X4_letter {l : Launch} {D : va_G} {k : Nat → ClassId} (b : Nat → Nat) (ag : Nat → Nat) (as : Nat → Nat) (ap : Nat → Nat) (aq : Nat → Nat) (aa : Nat → Nat) (ab : Nat → Nat) (M : Int32) (N : Int32) (C : Nat → Nat → Int32) (Gr : Nat → Nat → Int32) (Pr : Nat → Nat → Int64) (Pa : Nat → Nat → Int32) (I : Nat → Nat → Int64) (Ln : Nat → Int32) (Sz : Nat → Int32) (dr : Nat → Int32) (pR : Int32) (pP : Int32) (pL : Nat → Int32) (pN : Nat → Nat → Int32) (qR : Int32) (qP : Int32) (qL : Nat → Int32) (qN : Nat → Nat → Int32) (aR : Int32) (aP : Int32) (aL : Nat → Int32) (aN : Nat → Nat → Int32) (bR : Int32) (bP : Int32) (bL : Nat → Int32) (bN : Nat → Nat → Int32) (x1 : Int32) {post : Int32 → Int32 → Int32 → (Nat → Int32) → (Nat → Nat → Int32) → Int32 → Int32 → (Nat → Int32) → (Nat → Nat → Int32) → Prop} (hf : p_X4_letter pR pP pL pN qR qP qL qN x1 post) : ctI l yX4_letter wsX4_letter ({ frames := 5, cells := 0, slots := 0, locals := 113 }) D k [.ref (b 0), .int x1] (wX k b ag as ap aq aa ab M N C Gr Pr Pa I Ln Sz dr pR pP pL pN qR qP qL qN aR aP aL aN bR bP bL bN) (fun u : Int32 × Int32 × (Nat → Int32) × (Nat → Nat → Int32) × Int32 × Int32 × (Nat → Int32) × (Nat → Nat → Int32) => wX k b ag as ap aq aa ab M N C Gr Pr Pa I Ln Sz dr (u.1) (u.2.1) (u.2.2.1) (u.2.2.2.1) (u.2.2.2.2.1) (u.2.2.2.2.2.1) (u.2.2.2.2.2.2.1) (u.2.2.2.2.2.2.2) aR aP aL aN bR bP bL bN) (fun (r : Int32) (u : Int32 × Int32 × (Nat → Int32) × (Nat → Nat → Int32) × Int32 × Int32 × (Nat → Int32) × (Nat → Nat → Int32)) => post r u.1 u.2.1 u.2.2.1 u.2.2.2.1 u.2.2.2.2.1 u.2.2.2.2.2.1 u.2.2.2.2.2.2.1 u.2.2.2.2.2.2.2) := by
  refine Met.ofW (cc := cX4_letter) (maxL := 2) (ret := (some .int)) (by decide) rfl ?_
  intro p e s m args below meth c s₁ B hml hv
  obtain ⟨rfl, hP, hG, hD0⟩ := hv
  have C0 : xM p s m ([.ref (b 0), .int x1] : List Value).toArray meth c cX4_letter 2 RX4 (some .int) wsX4_letter := ⟨B.exec, B.bytes, B.returns, atoms_spec (ws := wsX4_letter) B.pre, findClass_of_methodNamed B.named, B.notSynchronized, hml⟩
  obtain ⟨hx, hb, hr, hts, hown, hlocks, hml⟩ := id C0
  have hD := xSelf hD0
  have hS : va_S (xIn (wX k b ag as ap aq aa ab M N C Gr Pr Pa I Ln Sz dr pR pP pL pN qR qP qL qN aR aP aL aN bR bP bL bN)) s.heap s.heap [] := va_S.rf
  generalize xIn (wX k b ag as ap aq aa ab M N C Gr Pr Pa I Ln Sz dr pR pP pL pN qR qP qL qN aR aP aL aN bR bP bL bN) = A at hD hS ⊢
  have hl := lv_entry ([.ref (b 0), .int x1]) (n := 2) (Nat.le_of_ble_eq_true rfl)
  rw [lg_entry_eq]
  generalize (lg_sl ([.ref (b 0), .int x1]) ++ List.replicate (2 - (lg_sl ([.ref (b 0), .int x1])).length) Slot.unset).toArray = ls at hl ⊢
  have hl : lv_has ls 2 [(0, .ref (b 0)), (1, .int x1)] := hl
  unfold p_X4_letter at hf
  refine lv_iload_n hx hb dX4_letter_0 rfl (lv_at hl 1 rfl) ?_
  refine lv_iconst (v := 1) hx hb dX4_letter_1 (by decide) ?_
  refine lv_bipush (v := 9) hx hb dX4_letter_2 (by decide) ?_
  have hp : xPerm (wX k b ag as ap aq aa ab M N C Gr Pr Pa I Ln Sz dr pR pP pL pN qR qP qL qN aR aP aL aN bR bP bL bN) (([]) ++ (wX k b ag as ap aq aa ab M N C Gr Pr Pa I Ln Sz dr pR pP pL pN qR qP qL qN aR aP aL aN bR bP bL bN)) := (List.Perm.refl _)
  refine xCallI (w := []) (r := wX k b ag as ap aq aa ab M N C Gr Pr Pa I Ln Sz dr pR pP pL pN qR qP qL qN aR aP aL aN bR bP bL bN) (va_runS (As := [.int x1, .int 1, .int 9]) (rest := []) ⟨hx, hb, hml, hown, hts⟩ (c_X4_isWithin x1 1 9 hf) (va_cwS 3 hts gX4_letter_X4_isWithin rfl rfl rfl (by decide +kernel) ⟨Nat.le_of_ble_eq_true rfl, Nat.le_of_ble_eq_true rfl⟩) (xPreS hG hP hD hp) rfl rfl hl.1 rfl (lv_room (Nat.le_of_ble_eq_true rfl)) dX4_letter_4 ⟨Nat.zero_le _, Nat.zero_le _⟩) hP hD hS hp (fun _ => rfl) (fun r_1 _ H locs hf hP hD hS => ?_)
  have hP : va_P D vwCl (wX k b ag as ap aq aa ab M N C Gr Pr Pa I Ln Sz dr pR pP pL pN qR qP qL qN aR aP aL aN bR bP bL bN) H := hP
  have hD : va_D A (wX k b ag as ap aq aa ab M N C Gr Pr Pa I Ln Sz dr pR pP pL pN qR qP qL qN aR aP aL aN bR bP bL bN) := hD
  refine lv_if_ne (tgt := 12) hx hb dX4_letter_7 (by decide) (fun c_2 => ?_) (fun c_2 => ?_)
  · have hf := hf.2 c_2
    refine lv_aload_n hx hb dX4_letter_12 rfl (lv_at hl 0 rfl) ?_
    refine va_get (D := D) (ci := 4) (C := RX4) (T := TX4) (N := 6) hx hb hts in_X4_letter_X4 hown hG.1 hP 0 rfl rfl 2 (by decide) (hts _ lk_X4_letter_26) (fun _ h9 => h9) rfl dX4_letter_13 ?_
    have hp : xPerm (wX k b ag as ap aq aa ab M N C Gr Pr Pa I Ln Sz dr pR pP pL pN qR qP qL qN aR aP aL aN bR bP bL bN) ((wW k (b 2) ap aq pR pP pL pN qR qP qL qN) ++ ([((b 0, .inr (4, [.ref (ag 0), .ref (b 1), .ref (b 2), .ref (aa 0), .ref (ab 0), .ref (b 3)])) : Nat × va_E)] ++ ([((b 1, .inl (k 5, 4, rfs (fun i => as (2 * i)))) : Nat × va_E)] ++ ([((b 3, .inl (k 0, 40, .inl dr)) : Nat × va_E)] ++ (wG k ag M N C Gr Pr Pa ++ (wSS k as I Ln Sz ++ (wT k aa aR aP aL aN ++ wT k ab bR bP bL bN))))))) := (xPermC fun _ x => by simp only [wX, wW, List.count_append]; omega)
    refine xCallI (w := wW k (b 2) ap aq pR pP pL pN qR qP qL qN) (r := [((b 0, .inr (4, [.ref (ag 0), .ref (b 1), .ref (b 2), .ref (aa 0), .ref (ab 0), .ref (b 3)])) : Nat × va_E)] ++ ([((b 1, .inl (k 5, 4, rfs (fun i => as (2 * i)))) : Nat × va_E)] ++ ([((b 3, .inl (k 0, 40, .inl dr)) : Nat × va_E)] ++ (wG k ag M N C Gr Pr Pa ++ (wSS k as I Ln Sz ++ (wT k aa aR aP aL aN ++ wT k ab bR bP bL bN)))))) (va_runV (As := []) (rest := []) ⟨hx, hb, hml, hown, hts⟩ (c_X3_letterCount (b 2) ap aq pR pP pL pN qR qP qL qN hf) (cwV 0 hts gX4_letter_X3_letterCount rfl rfl rfl (by decide +kernel) ⟨Nat.le_of_ble_eq_true rfl, Nat.le_of_ble_eq_true rfl⟩) (xPreV hG hP hD hp (ci := 3) rfl (i := 0) rfl) rfl rfl hl.1 rfl (lv_room (Nat.le_of_ble_eq_true rfl)) dX4_letter_16 ⟨Nat.zero_le _, Nat.zero_le _⟩) hP hD hS hp (fun _ => wW_adr) (fun r_3 _ H locs hf hP hD hS => ?_)
    have hP : va_P D vwCl (wX k b ag as ap aq aa ab M N C Gr Pr Pa I Ln Sz dr pR pP pL pN qR qP qL qN aR aP aL aN bR bP bL bN) H := xP_perm (xPermC fun _ x => by simp only [wX, wW, List.count_append]; omega) hP
    have hD : va_D A (wX k b ag as ap aq aa ab M N C Gr Pr Pa I Ln Sz dr pR pP pL pN qR qP qL qN aR aP aL aN bR bP bL bN) := xD_perm (xPermC fun _ x => by simp only [wX, wW, List.count_append]; omega) hD
    refine lv_bipush (v := 40) hx hb dX4_letter_19 (by decide) ?_
    refine lv_icmp_lt (tgt := 27) hx hb dX4_letter_21 (by decide) (fun c_4 => ?_) (fun c_4 => ?_)
    · have hf := hf.1 c_4
      refine lv_aload_n hx hb dX4_letter_27 rfl (lv_at hl 0 rfl) ?_
      refine va_get (D := D) (ci := 4) (C := RX4) (T := TX4) (N := 6) hx hb hts in_X4_letter_X4 hown hG.1 hP 0 rfl rfl 2 (by decide) (hts _ lk_X4_letter_26) (fun _ h9 => h9) rfl dX4_letter_28 ?_
      refine lv_iload_n hx hb dX4_letter_31 rfl (lv_at hl 1 rfl) ?_
      have hp : xPerm (wX k b ag as ap aq aa ab M N C Gr Pr Pa I Ln Sz dr pR pP pL pN qR qP qL qN aR aP aL aN bR bP bL bN) ((wW k (b 2) ap aq pR pP pL pN qR qP qL qN) ++ ([((b 0, .inr (4, [.ref (ag 0), .ref (b 1), .ref (b 2), .ref (aa 0), .ref (ab 0), .ref (b 3)])) : Nat × va_E)] ++ ([((b 1, .inl (k 5, 4, rfs (fun i => as (2 * i)))) : Nat × va_E)] ++ ([((b 3, .inl (k 0, 40, .inl dr)) : Nat × va_E)] ++ (wG k ag M N C Gr Pr Pa ++ (wSS k as I Ln Sz ++ (wT k aa aR aP aL aN ++ wT k ab bR bP bL bN))))))) := (xPermC fun _ x => by simp only [wX, wW, List.count_append]; omega)
      refine xCallV (w := wW k (b 2) ap aq pR pP pL pN qR qP qL qN) (r := [((b 0, .inr (4, [.ref (ag 0), .ref (b 1), .ref (b 2), .ref (aa 0), .ref (ab 0), .ref (b 3)])) : Nat × va_E)] ++ ([((b 1, .inl (k 5, 4, rfs (fun i => as (2 * i)))) : Nat × va_E)] ++ ([((b 3, .inl (k 0, 40, .inl dr)) : Nat × va_E)] ++ (wG k ag M N C Gr Pr Pa ++ (wSS k as I Ln Sz ++ (wT k aa aR aP aL aN ++ wT k ab bR bP bL bN)))))) (va_runV (As := [.int x1]) (rest := []) ⟨hx, hb, hml, hown, hts⟩ (c_X3_takeLetter (b 2) ap aq pR pP pL pN qR qP qL qN x1 hf) (cwV 1 hts gX4_letter_X3_takeLetter rfl rfl rfl (by decide +kernel) ⟨Nat.le_of_ble_eq_true rfl, Nat.le_of_ble_eq_true rfl⟩) (xPreV hG hP hD hp (ci := 3) rfl (i := 0) rfl) rfl rfl hl.1 rfl (lv_room (Nat.le_of_ble_eq_true rfl)) dX4_letter_32 ⟨Nat.zero_le _, Nat.zero_le _⟩) hP hD hS hp (fun _ => wW_adr) (fun u H locs hf hP hD hS => ?_)
      obtain ⟨pR_5, pP_6, pL_7, pN_8, qR_9, qP_10, qL_11, qN_12⟩ := u
      have hP : va_P D vwCl (wX k b ag as ap aq aa ab M N C Gr Pr Pa I Ln Sz dr pR_5 pP_6 pL_7 pN_8 qR_9 qP_10 qL_11 qN_12 aR aP aL aN bR bP bL bN) H := xP_perm (xPermC fun _ x => by simp only [wX, wW, List.count_append]; omega) hP
      have hD : va_D A (wX k b ag as ap aq aa ab M N C Gr Pr Pa I Ln Sz dr pR_5 pP_6 pL_7 pN_8 qR_9 qP_10 qL_11 qN_12 aR aP aL aN bR bP bL bN) := xD_perm (xPermC fun _ x => by simp only [wX, wW, List.count_append]; omega) hD
      refine lv_aload_n hx hb dX4_letter_35 rfl (lv_at hl 0 rfl) ?_
      refine va_get (D := D) (ci := 4) (C := RX4) (T := TX4) (N := 6) hx hb hts in_X4_letter_X4 hown hG.1 hP 0 rfl rfl 2 (by decide) (hts _ lk_X4_letter_26) (fun _ h9 => h9) rfl dX4_letter_36 ?_
      have hp : xPerm (wX k b ag as ap aq aa ab M N C Gr Pr Pa I Ln Sz dr pR_5 pP_6 pL_7 pN_8 qR_9 qP_10 qL_11 qN_12 aR aP aL aN bR bP bL bN) ((wW k (b 2) ap aq pR_5 pP_6 pL_7 pN_8 qR_9 qP_10 qL_11 qN_12) ++ ([((b 0, .inr (4, [.ref (ag 0), .ref (b 1), .ref (b 2), .ref (aa 0), .ref (ab 0), .ref (b 3)])) : Nat × va_E)] ++ ([((b 1, .inl (k 5, 4, rfs (fun i => as (2 * i)))) : Nat × va_E)] ++ ([((b 3, .inl (k 0, 40, .inl dr)) : Nat × va_E)] ++ (wG k ag M N C Gr Pr Pa ++ (wSS k as I Ln Sz ++ (wT k aa aR aP aL aN ++ wT k ab bR bP bL bN))))))) := (xPermC fun _ x => by simp only [wX, wW, List.count_append]; omega)
      refine xCallI (w := wW k (b 2) ap aq pR_5 pP_6 pL_7 pN_8 qR_9 qP_10 qL_11 qN_12) (r := [((b 0, .inr (4, [.ref (ag 0), .ref (b 1), .ref (b 2), .ref (aa 0), .ref (ab 0), .ref (b 3)])) : Nat × va_E)] ++ ([((b 1, .inl (k 5, 4, rfs (fun i => as (2 * i)))) : Nat × va_E)] ++ ([((b 3, .inl (k 0, 40, .inl dr)) : Nat × va_E)] ++ (wG k ag M N C Gr Pr Pa ++ (wSS k as I Ln Sz ++ (wT k aa aR aP aL aN ++ wT k ab bR bP bL bN)))))) (va_runV (As := []) (rest := []) ⟨hx, hb, hml, hown, hts⟩ (c_X3_letterCount (b 2) ap aq pR_5 pP_6 pL_7 pN_8 qR_9 qP_10 qL_11 qN_12 hf) (cwV 0 hts gX4_letter_X3_letterCount rfl rfl rfl (by decide +kernel) ⟨Nat.le_of_ble_eq_true rfl, Nat.le_of_ble_eq_true rfl⟩) (xPreV hG hP hD hp (ci := 3) rfl (i := 0) rfl) rfl rfl hl.1 rfl (lv_room (Nat.le_of_ble_eq_true rfl)) dX4_letter_39 ⟨Nat.zero_le _, Nat.zero_le _⟩) hP hD hS hp (fun _ => wW_adr) (fun r_13 _ H locs hf hP hD hS => ?_)
      have hP : va_P D vwCl (wX k b ag as ap aq aa ab M N C Gr Pr Pa I Ln Sz dr pR_5 pP_6 pL_7 pN_8 qR_9 qP_10 qL_11 qN_12 aR aP aL aN bR bP bL bN) H := xP_perm (xPermC fun _ x => by simp only [wX, wW, List.count_append]; omega) hP
      have hD : va_D A (wX k b ag as ap aq aa ab M N C Gr Pr Pa I Ln Sz dr pR_5 pP_6 pL_7 pN_8 qR_9 qP_10 qL_11 qN_12 aR aP aL aN bR bP bL bN) := xD_perm (xPermC fun _ x => by simp only [wX, wW, List.count_append]; omega) hD
      exact W.iret (v := r_13) hx hb hr (fun t ht hW => ⟨⟨r_13, (pR_5, pP_6, pL_7, pN_8, qR_9, qP_10, qL_11, qN_12), rfl, hf, xHp ht hP⟩, hS.F ht⟩) hS.2.2 dX4_letter_42 hlocks
    · have hf := hf.2 c_4
      refine lv_bipush (v := (-3)) hx hb dX4_letter_24 (by decide) ?_
      exact W.iret (v := (-3)) hx hb hr (fun t ht hW => ⟨⟨((-3) : Int32), (pR, pP, pL, pN, qR, qP, qL, qN), rfl, hf, xHp ht hP⟩, hS.F ht⟩) hS.2.2 dX4_letter_26 hlocks
  · have hf := hf.1 c_2
    refine lv_iconst (v := (-1)) hx hb dX4_letter_10 (by decide) ?_
    exact W.iret (v := (-1)) hx hb hr (fun t ht hW => ⟨⟨((-1) : Int32), (pR, pP, pL, pN, qR, qP, qL, qN), rfl, hf, xHp ht hP⟩, hS.F ht⟩) hS.2.2 dX4_letter_11 hlocks

def p_X4_clear (pR : Int32) (pP : Int32) (pL : Nat → Int32) (qR : Int32) (qP : Int32) (qL : Nat → Int32) (post : Int32 → Int32 → Int32 → (Nat → Int32) → Int32 → Int32 → (Nat → Int32) → Prop) : Prop := p_X3_letterCount pP (fun r_1 => p_X3_forget pR pP pL qR qP qL (fun pR_2 pP_3 pL_4 qR_5 qP_6 qL_7 => post r_1 pR_2 pP_3 pL_4 qR_5 qP_6 qL_7))
theorem in_X4_clear_X4 : ∀ w ∈ u_ws RX4 TX4 6, w ∈ wsX4_clear := by decide +kernel
theorem lk_X4_clear_26 : Cond.fieldLink RX4 26 "GrowingCorners" "word" "LGrowingCorners$Word;" ∈ wsX4_clear := by decide +kernel
set_option maxHeartbeats 4000000 in
set_option maxRecDepth 100000 in
theorem c_X4_clear {l : Launch} {D : va_G} {k : Nat → ClassId} (b : Nat → Nat) (ag : Nat → Nat) (as : Nat → Nat) (ap : Nat → Nat) (aq : Nat → Nat) (aa : Nat → Nat) (ab : Nat → Nat) (M : Int32) (N : Int32) (C : Nat → Nat → Int32) (Gr : Nat → Nat → Int32) (Pr : Nat → Nat → Int64) (Pa : Nat → Nat → Int32) (I : Nat → Nat → Int64) (Ln : Nat → Int32) (Sz : Nat → Int32) (dr : Nat → Int32) (pR : Int32) (pP : Int32) (pL : Nat → Int32) (pN : Nat → Nat → Int32) (qR : Int32) (qP : Int32) (qL : Nat → Int32) (qN : Nat → Nat → Int32) (aR : Int32) (aP : Int32) (aL : Nat → Int32) (aN : Nat → Nat → Int32) (bR : Int32) (bP : Int32) (bL : Nat → Int32) (bN : Nat → Nat → Int32) {post : Int32 → Int32 → Int32 → (Nat → Int32) → Int32 → Int32 → (Nat → Int32) → Prop} (hf : p_X4_clear pR pP pL qR qP qL post) : ctI l yX4_clear wsX4_clear ({ frames := 3, cells := 0, slots := 0, locals := 63 }) D k [.ref (b 0)] (wX k b ag as ap aq aa ab M N C Gr Pr Pa I Ln Sz dr pR pP pL pN qR qP qL qN aR aP aL aN bR bP bL bN) (fun u : Int32 × Int32 × (Nat → Int32) × Int32 × Int32 × (Nat → Int32) => wX k b ag as ap aq aa ab M N C Gr Pr Pa I Ln Sz dr (u.1) (u.2.1) (u.2.2.1) pN (u.2.2.2.1) (u.2.2.2.2.1) (u.2.2.2.2.2) qN aR aP aL aN bR bP bL bN) (fun (r : Int32) (u : Int32 × Int32 × (Nat → Int32) × Int32 × Int32 × (Nat → Int32)) => post r u.1 u.2.1 u.2.2.1 u.2.2.2.1 u.2.2.2.2.1 u.2.2.2.2.2) := by
  refine Met.ofW (cc := cX4_clear) (maxL := 2) (ret := (some .int)) (by decide) rfl ?_
  intro p e s m args below meth c s₁ B hml hv
  obtain ⟨rfl, hP, hG, hD0⟩ := hv
  have C0 : xM p s m ([.ref (b 0)] : List Value).toArray meth c cX4_clear 2 RX4 (some .int) wsX4_clear := ⟨B.exec, B.bytes, B.returns, atoms_spec (ws := wsX4_clear) B.pre, findClass_of_methodNamed B.named, B.notSynchronized, hml⟩
  obtain ⟨hx, hb, hr, hts, hown, hlocks, hml⟩ := id C0
  have hD := xSelf hD0
  have hS : va_S (xIn (wX k b ag as ap aq aa ab M N C Gr Pr Pa I Ln Sz dr pR pP pL pN qR qP qL qN aR aP aL aN bR bP bL bN)) s.heap s.heap [] := va_S.rf
  generalize xIn (wX k b ag as ap aq aa ab M N C Gr Pr Pa I Ln Sz dr pR pP pL pN qR qP qL qN aR aP aL aN bR bP bL bN) = A at hD hS ⊢
  have hl := lv_entry ([.ref (b 0)]) (n := 2) (Nat.le_of_ble_eq_true rfl)
  rw [lg_entry_eq]
  generalize (lg_sl ([.ref (b 0)]) ++ List.replicate (2 - (lg_sl ([.ref (b 0)])).length) Slot.unset).toArray = ls at hl ⊢
  have hl : lv_has ls 2 [(0, .ref (b 0))] := hl
  unfold p_X4_clear at hf
  refine lv_aload_n hx hb dX4_clear_0 rfl (lv_at hl 0 rfl) ?_
  refine va_get (D := D) (ci := 4) (C := RX4) (T := TX4) (N := 6) hx hb hts in_X4_clear_X4 hown hG.1 hP 0 rfl rfl 2 (by decide) (hts _ lk_X4_clear_26) (fun _ h9 => h9) rfl dX4_clear_1 ?_
  have hp : xPerm (wX k b ag as ap aq aa ab M N C Gr Pr Pa I Ln Sz dr pR pP pL pN qR qP qL qN aR aP aL aN bR bP bL bN) ((wW k (b 2) ap aq pR pP pL pN qR qP qL qN) ++ ([((b 0, .inr (4, [.ref (ag 0), .ref (b 1), .ref (b 2), .ref (aa 0), .ref (ab 0), .ref (b 3)])) : Nat × va_E)] ++ ([((b 1, .inl (k 5, 4, rfs (fun i => as (2 * i)))) : Nat × va_E)] ++ ([((b 3, .inl (k 0, 40, .inl dr)) : Nat × va_E)] ++ (wG k ag M N C Gr Pr Pa ++ (wSS k as I Ln Sz ++ (wT k aa aR aP aL aN ++ wT k ab bR bP bL bN))))))) := (xPermC fun _ x => by simp only [wX, wW, List.count_append]; omega)
  refine xCallI (w := wW k (b 2) ap aq pR pP pL pN qR qP qL qN) (r := [((b 0, .inr (4, [.ref (ag 0), .ref (b 1), .ref (b 2), .ref (aa 0), .ref (ab 0), .ref (b 3)])) : Nat × va_E)] ++ ([((b 1, .inl (k 5, 4, rfs (fun i => as (2 * i)))) : Nat × va_E)] ++ ([((b 3, .inl (k 0, 40, .inl dr)) : Nat × va_E)] ++ (wG k ag M N C Gr Pr Pa ++ (wSS k as I Ln Sz ++ (wT k aa aR aP aL aN ++ wT k ab bR bP bL bN)))))) (va_runV (As := []) (rest := []) ⟨hx, hb, hml, hown, hts⟩ (c_X3_letterCount (b 2) ap aq pR pP pL pN qR qP qL qN hf) (cwV 0 hts gX4_clear_X3_letterCount rfl rfl rfl (by decide +kernel) ⟨Nat.le_of_ble_eq_true rfl, Nat.le_of_ble_eq_true rfl⟩) (xPreV hG hP hD hp (ci := 3) rfl (i := 0) rfl) rfl rfl hl.1 rfl (lv_room (Nat.le_of_ble_eq_true rfl)) dX4_clear_4 ⟨Nat.zero_le _, Nat.zero_le _⟩) hP hD hS hp (fun _ => wW_adr) (fun r_1 _ H locs hf hP hD hS => ?_)
  have hP : va_P D vwCl (wX k b ag as ap aq aa ab M N C Gr Pr Pa I Ln Sz dr pR pP pL pN qR qP qL qN aR aP aL aN bR bP bL bN) H := xP_perm (xPermC fun _ x => by simp only [wX, wW, List.count_append]; omega) hP
  have hD : va_D A (wX k b ag as ap aq aa ab M N C Gr Pr Pa I Ln Sz dr pR pP pL pN qR qP qL qN aR aP aL aN bR bP bL bN) := xD_perm (xPermC fun _ x => by simp only [wX, wW, List.count_append]; omega) hD
  refine lv_istore_n (lv' := [(1, .int r_1), (0, .ref (b 0))]) hx hb dX4_clear_7 rfl hl (by decide) rfl (fun ls hl => ?_)
  refine lv_aload_n hx hb dX4_clear_8 rfl (lv_at hl 1 rfl) ?_
  refine va_get (D := D) (ci := 4) (C := RX4) (T := TX4) (N := 6) hx hb hts in_X4_clear_X4 hown hG.1 hP 0 rfl rfl 2 (by decide) (hts _ lk_X4_clear_26) (fun _ h9 => h9) rfl dX4_clear_9 ?_
  have hp : xPerm (wX k b ag as ap aq aa ab M N C Gr Pr Pa I Ln Sz dr pR pP pL pN qR qP qL qN aR aP aL aN bR bP bL bN) ((wW k (b 2) ap aq pR pP pL pN qR qP qL qN) ++ ([((b 0, .inr (4, [.ref (ag 0), .ref (b 1), .ref (b 2), .ref (aa 0), .ref (ab 0), .ref (b 3)])) : Nat × va_E)] ++ ([((b 1, .inl (k 5, 4, rfs (fun i => as (2 * i)))) : Nat × va_E)] ++ ([((b 3, .inl (k 0, 40, .inl dr)) : Nat × va_E)] ++ (wG k ag M N C Gr Pr Pa ++ (wSS k as I Ln Sz ++ (wT k aa aR aP aL aN ++ wT k ab bR bP bL bN))))))) := (xPermC fun _ x => by simp only [wX, wW, List.count_append]; omega)
  refine xCallV (w := wW k (b 2) ap aq pR pP pL pN qR qP qL qN) (r := [((b 0, .inr (4, [.ref (ag 0), .ref (b 1), .ref (b 2), .ref (aa 0), .ref (ab 0), .ref (b 3)])) : Nat × va_E)] ++ ([((b 1, .inl (k 5, 4, rfs (fun i => as (2 * i)))) : Nat × va_E)] ++ ([((b 3, .inl (k 0, 40, .inl dr)) : Nat × va_E)] ++ (wG k ag M N C Gr Pr Pa ++ (wSS k as I Ln Sz ++ (wT k aa aR aP aL aN ++ wT k ab bR bP bL bN)))))) (va_runV (As := []) (rest := []) ⟨hx, hb, hml, hown, hts⟩ (c_X3_forget (b 2) ap aq pR pP pL pN qR qP qL qN hf) (cwV 0 hts gX4_clear_X3_forget rfl rfl rfl (by decide +kernel) ⟨Nat.le_of_ble_eq_true rfl, Nat.le_of_ble_eq_true rfl⟩) (xPreV hG hP hD hp (ci := 3) rfl (i := 0) rfl) rfl rfl hl.1 rfl (lv_room (Nat.le_of_ble_eq_true rfl)) dX4_clear_12 ⟨Nat.zero_le _, Nat.zero_le _⟩) hP hD hS hp (fun _ => wW_adr) (fun u H locs hf hP hD hS => ?_)
  obtain ⟨pR_2, pP_3, pL_4, qR_5, qP_6, qL_7⟩ := u
  have hP : va_P D vwCl (wX k b ag as ap aq aa ab M N C Gr Pr Pa I Ln Sz dr pR_2 pP_3 pL_4 pN qR_5 qP_6 qL_7 qN aR aP aL aN bR bP bL bN) H := xP_perm (xPermC fun _ x => by simp only [wX, wW, List.count_append]; omega) hP
  have hD : va_D A (wX k b ag as ap aq aa ab M N C Gr Pr Pa I Ln Sz dr pR_2 pP_3 pL_4 pN qR_5 qP_6 qL_7 qN aR aP aL aN bR bP bL bN) := xD_perm (xPermC fun _ x => by simp only [wX, wW, List.count_append]; omega) hD
  refine lv_iload_n hx hb dX4_clear_15 rfl (lv_at hl 0 rfl) ?_
  exact W.iret (v := r_1) hx hb hr (fun t ht hW => ⟨⟨r_1, (pR_2, pP_3, pL_4, qR_5, qP_6, qL_7), rfl, hf, xHp ht hP⟩, hS.F ht⟩) hS.2.2 dX4_clear_16 hlocks

def p_X4_row (pL : Nat → Int32) (qL : Nat → Int32) (x1 : Int32) (post : Int32 → Prop) : Prop := p_X4_isWithin x1 0 8 (fun r_1 => ((r_1 = 0 → post (-1)) ∧ (¬ r_1 = 0 → (((0 : Int32) = 0 → p_X2_lengthOf pL x1 (fun r_4 => post r_4)) ∧ (¬ (0 : Int32) = 0 → p_X2_lengthOf qL x1 (fun r_5 => post r_5))))))
theorem in_X4_row_X4 : ∀ w ∈ u_ws RX4 TX4 6, w ∈ wsX4_row := by decide +kernel
theorem lk_X4_row_26 : Cond.fieldLink RX4 26 "GrowingCorners" "word" "LGrowingCorners$Word;" ∈ wsX4_row := by decide +kernel
set_option maxHeartbeats 4000000 in
set_option maxRecDepth 100000 in
theorem c_X4_row {l : Launch} {D : va_G} {k : Nat → ClassId} (b : Nat → Nat) (ag : Nat → Nat) (as : Nat → Nat) (ap : Nat → Nat) (aq : Nat → Nat) (aa : Nat → Nat) (ab : Nat → Nat) (M : Int32) (N : Int32) (C : Nat → Nat → Int32) (Gr : Nat → Nat → Int32) (Pr : Nat → Nat → Int64) (Pa : Nat → Nat → Int32) (I : Nat → Nat → Int64) (Ln : Nat → Int32) (Sz : Nat → Int32) (dr : Nat → Int32) (pR : Int32) (pP : Int32) (pL : Nat → Int32) (pN : Nat → Nat → Int32) (qR : Int32) (qP : Int32) (qL : Nat → Int32) (qN : Nat → Nat → Int32) (aR : Int32) (aP : Int32) (aL : Nat → Int32) (aN : Nat → Nat → Int32) (bR : Int32) (bP : Int32) (bL : Nat → Int32) (bN : Nat → Nat → Int32) (x1 : Int32) {post : Int32 → Prop} (hf : p_X4_row pL qL x1 post) : ctI l yX4_row wsX4_row ({ frames := 1, cells := 0, slots := 0, locals := 22 }) D k [.ref (b 0), .int x1] (wX k b ag as ap aq aa ab M N C Gr Pr Pa I Ln Sz dr pR pP pL pN qR qP qL qN aR aP aL aN bR bP bL bN) (fun u : Unit => wX k b ag as ap aq aa ab M N C Gr Pr Pa I Ln Sz dr pR pP pL pN qR qP qL qN aR aP aL aN bR bP bL bN) (fun (r : Int32) (u : Unit) => post r) := by
  refine Met.ofW (cc := cX4_row) (maxL := 2) (ret := (some .int)) (by decide) rfl ?_
  intro p e s m args below meth c s₁ B hml hv
  obtain ⟨rfl, hP, hG, hD0⟩ := hv
  have C0 : xM p s m ([.ref (b 0), .int x1] : List Value).toArray meth c cX4_row 2 RX4 (some .int) wsX4_row := ⟨B.exec, B.bytes, B.returns, atoms_spec (ws := wsX4_row) B.pre, findClass_of_methodNamed B.named, B.notSynchronized, hml⟩
  obtain ⟨hx, hb, hr, hts, hown, hlocks, hml⟩ := id C0
  have hD := xSelf hD0
  have hS : va_S (xIn (wX k b ag as ap aq aa ab M N C Gr Pr Pa I Ln Sz dr pR pP pL pN qR qP qL qN aR aP aL aN bR bP bL bN)) s.heap s.heap [] := va_S.rf
  generalize xIn (wX k b ag as ap aq aa ab M N C Gr Pr Pa I Ln Sz dr pR pP pL pN qR qP qL qN aR aP aL aN bR bP bL bN) = A at hD hS ⊢
  have hl := lv_entry ([.ref (b 0), .int x1]) (n := 2) (Nat.le_of_ble_eq_true rfl)
  rw [lg_entry_eq]
  generalize (lg_sl ([.ref (b 0), .int x1]) ++ List.replicate (2 - (lg_sl ([.ref (b 0), .int x1])).length) Slot.unset).toArray = ls at hl ⊢
  have hl : lv_has ls 2 [(0, .ref (b 0)), (1, .int x1)] := hl
  unfold p_X4_row at hf
  refine lv_iload_n hx hb dX4_row_0 rfl (lv_at hl 1 rfl) ?_
  refine lv_iconst (v := 0) hx hb dX4_row_1 (by decide) ?_
  refine lv_bipush (v := 8) hx hb dX4_row_2 (by decide) ?_
  have hp : xPerm (wX k b ag as ap aq aa ab M N C Gr Pr Pa I Ln Sz dr pR pP pL pN qR qP qL qN aR aP aL aN bR bP bL bN) (([]) ++ (wX k b ag as ap aq aa ab M N C Gr Pr Pa I Ln Sz dr pR pP pL pN qR qP qL qN aR aP aL aN bR bP bL bN)) := (List.Perm.refl _)
  refine xCallI (w := []) (r := wX k b ag as ap aq aa ab M N C Gr Pr Pa I Ln Sz dr pR pP pL pN qR qP qL qN aR aP aL aN bR bP bL bN) (va_runS (As := [.int x1, .int 0, .int 8]) (rest := []) ⟨hx, hb, hml, hown, hts⟩ (c_X4_isWithin x1 0 8 hf) (va_cwS 3 hts gX4_row_X4_isWithin rfl rfl rfl (by decide +kernel) ⟨Nat.le_of_ble_eq_true rfl, Nat.le_of_ble_eq_true rfl⟩) (xPreS hG hP hD hp) rfl rfl hl.1 rfl (lv_room (Nat.le_of_ble_eq_true rfl)) dX4_row_4 ⟨Nat.zero_le _, Nat.zero_le _⟩) hP hD hS hp (fun _ => rfl) (fun r_1 _ H locs hf hP hD hS => ?_)
  have hP : va_P D vwCl (wX k b ag as ap aq aa ab M N C Gr Pr Pa I Ln Sz dr pR pP pL pN qR qP qL qN aR aP aL aN bR bP bL bN) H := hP
  have hD : va_D A (wX k b ag as ap aq aa ab M N C Gr Pr Pa I Ln Sz dr pR pP pL pN qR qP qL qN aR aP aL aN bR bP bL bN) := hD
  refine lv_if_ne (tgt := 12) hx hb dX4_row_7 (by decide) (fun c_2 => ?_) (fun c_2 => ?_)
  · have hf := hf.2 c_2
    refine lv_aload_n hx hb dX4_row_12 rfl (lv_at hl 0 rfl) ?_
    refine va_get (D := D) (ci := 4) (C := RX4) (T := TX4) (N := 6) hx hb hts in_X4_row_X4 hown hG.1 hP 0 rfl rfl 2 (by decide) (hts _ lk_X4_row_26) (fun _ h9 => h9) rfl dX4_row_13 ?_
    refine lv_iconst (v := 0) hx hb dX4_row_16 (by decide) ?_
    have hp : xPerm (wX k b ag as ap aq aa ab M N C Gr Pr Pa I Ln Sz dr pR pP pL pN qR qP qL qN aR aP aL aN bR bP bL bN) ((wW k (b 2) ap aq pR pP pL pN qR qP qL qN) ++ ([((b 0, .inr (4, [.ref (ag 0), .ref (b 1), .ref (b 2), .ref (aa 0), .ref (ab 0), .ref (b 3)])) : Nat × va_E)] ++ ([((b 1, .inl (k 5, 4, rfs (fun i => as (2 * i)))) : Nat × va_E)] ++ ([((b 3, .inl (k 0, 40, .inl dr)) : Nat × va_E)] ++ (wG k ag M N C Gr Pr Pa ++ (wSS k as I Ln Sz ++ (wT k aa aR aP aL aN ++ wT k ab bR bP bL bN))))))) := (xPermC fun _ x => by simp only [wX, wW, List.count_append]; omega)
    by_cases c_3 : (0 : Int32) = 0
    · have hf := hf.1 c_3
      refine xCallR (w := wW k (b 2) ap aq pR pP pL pN qR qP qL qN) (r := [((b 0, .inr (4, [.ref (ag 0), .ref (b 1), .ref (b 2), .ref (aa 0), .ref (ab 0), .ref (b 3)])) : Nat × va_E)] ++ ([((b 1, .inl (k 5, 4, rfs (fun i => as (2 * i)))) : Nat × va_E)] ++ ([((b 3, .inl (k 0, 40, .inl dr)) : Nat × va_E)] ++ (wG k ag M N C Gr Pr Pa ++ (wSS k as I Ln Sz ++ (wT k aa aR aP aL aN ++ wT k ab bR bP bL bN)))))) (va_runV (As := [.int 0]) (rest := []) ⟨hx, hb, hml, hown, hts⟩ (c_X3_tableau_p (b 2) ap aq pR pP pL pN qR qP qL qN 0 c_3) (cwV 1 hts gX4_row_X3_tableau rfl rfl rfl (by decide +kernel) ⟨Nat.le_of_ble_eq_true rfl, Nat.le_of_ble_eq_true rfl⟩) (xPreV hG hP hD hp (ci := 3) rfl (i := 0) rfl) rfl rfl hl.1 rfl (lv_room (Nat.le_of_ble_eq_true rfl)) dX4_row_17 ⟨Nat.zero_le _, Nat.zero_le _⟩) hP hD hS hp (fun r0 H locs h0 hP hD hS => ?_)
      subst h0
      have hP : va_P D vwCl (wX k b ag as ap aq aa ab M N C Gr Pr Pa I Ln Sz dr pR pP pL pN qR qP qL qN aR aP aL aN bR bP bL bN) H := xP_perm (xPermC fun _ x => by simp only [wX, wW, List.count_append]; omega) hP
      have hD : va_D A (wX k b ag as ap aq aa ab M N C Gr Pr Pa I Ln Sz dr pR pP pL pN qR qP qL qN aR aP aL aN bR bP bL bN) := xD_perm (xPermC fun _ x => by simp only [wX, wW, List.count_append]; omega) hD
      refine lv_iload_n hx hb dX4_row_20 rfl (lv_at hl 1 rfl) ?_
      have hp : xPerm (wX k b ag as ap aq aa ab M N C Gr Pr Pa I Ln Sz dr pR pP pL pN qR qP qL qN aR aP aL aN bR bP bL bN) ((wT k ap pR pP pL pN) ++ ([((b 0, .inr (4, [.ref (ag 0), .ref (b 1), .ref (b 2), .ref (aa 0), .ref (ab 0), .ref (b 3)])) : Nat × va_E)] ++ ([((b 1, .inl (k 5, 4, rfs (fun i => as (2 * i)))) : Nat × va_E)] ++ ([((b 2, .inr (3, [.ref (ap 0), .ref (aq 0)])) : Nat × va_E)] ++ ([((b 3, .inl (k 0, 40, .inl dr)) : Nat × va_E)] ++ (wG k ag M N C Gr Pr Pa ++ (wSS k as I Ln Sz ++ (wT k aq qR qP qL qN ++ (wT k aa aR aP aL aN ++ wT k ab bR bP bL bN))))))))) := (xPermC fun _ x => by simp only [wX, wW, List.count_append]; omega)
      refine xCallI (w := wT k ap pR pP pL pN) (r := [((b 0, .inr (4, [.ref (ag 0), .ref (b 1), .ref (b 2), .ref (aa 0), .ref (ab 0), .ref (b 3)])) : Nat × va_E)] ++ ([((b 1, .inl (k 5, 4, rfs (fun i => as (2 * i)))) : Nat × va_E)] ++ ([((b 2, .inr (3, [.ref (ap 0), .ref (aq 0)])) : Nat × va_E)] ++ ([((b 3, .inl (k 0, 40, .inl dr)) : Nat × va_E)] ++ (wG k ag M N C Gr Pr Pa ++ (wSS k as I Ln Sz ++ (wT k aq qR qP qL qN ++ (wT k aa aR aP aL aN ++ wT k ab bR bP bL bN)))))))) (va_runV (As := [.int x1]) (rest := []) ⟨hx, hb, hml, hown, hts⟩ (c_X2_lengthOf ap pR pP pL pN x1 hf) (cwV 1 hts gX4_row_X2_lengthOf rfl rfl rfl (by decide +kernel) ⟨Nat.le_of_ble_eq_true rfl, Nat.le_of_ble_eq_true rfl⟩) (xPreV hG hP hD hp (ci := 2) rfl (i := 0) rfl) rfl rfl hl.1 rfl (lv_room (Nat.le_of_ble_eq_true rfl)) dX4_row_21 ⟨Nat.zero_le _, Nat.zero_le _⟩) hP hD hS hp (fun _ => wT_adr) (fun r_4 _ H locs hf hP hD hS => ?_)
      have hP : va_P D vwCl (wX k b ag as ap aq aa ab M N C Gr Pr Pa I Ln Sz dr pR pP pL pN qR qP qL qN aR aP aL aN bR bP bL bN) H := xP_perm (xPermC fun _ x => by simp only [wX, wW, List.count_append]; omega) hP
      have hD : va_D A (wX k b ag as ap aq aa ab M N C Gr Pr Pa I Ln Sz dr pR pP pL pN qR qP qL qN aR aP aL aN bR bP bL bN) := xD_perm (xPermC fun _ x => by simp only [wX, wW, List.count_append]; omega) hD
      exact W.iret (v := r_4) hx hb hr (fun t ht hW => ⟨⟨r_4, (), rfl, hf, xHp ht hP⟩, hS.F ht⟩) hS.2.2 dX4_row_24 hlocks
    · have hf := hf.2 c_3
      refine xCallR (w := wW k (b 2) ap aq pR pP pL pN qR qP qL qN) (r := [((b 0, .inr (4, [.ref (ag 0), .ref (b 1), .ref (b 2), .ref (aa 0), .ref (ab 0), .ref (b 3)])) : Nat × va_E)] ++ ([((b 1, .inl (k 5, 4, rfs (fun i => as (2 * i)))) : Nat × va_E)] ++ ([((b 3, .inl (k 0, 40, .inl dr)) : Nat × va_E)] ++ (wG k ag M N C Gr Pr Pa ++ (wSS k as I Ln Sz ++ (wT k aa aR aP aL aN ++ wT k ab bR bP bL bN)))))) (va_runV (As := [.int 0]) (rest := []) ⟨hx, hb, hml, hown, hts⟩ (c_X3_tableau_q (b 2) ap aq pR pP pL pN qR qP qL qN 0 c_3) (cwV 1 hts gX4_row_X3_tableau rfl rfl rfl (by decide +kernel) ⟨Nat.le_of_ble_eq_true rfl, Nat.le_of_ble_eq_true rfl⟩) (xPreV hG hP hD hp (ci := 3) rfl (i := 0) rfl) rfl rfl hl.1 rfl (lv_room (Nat.le_of_ble_eq_true rfl)) dX4_row_17 ⟨Nat.zero_le _, Nat.zero_le _⟩) hP hD hS hp (fun r0 H locs h0 hP hD hS => ?_)
      subst h0
      have hP : va_P D vwCl (wX k b ag as ap aq aa ab M N C Gr Pr Pa I Ln Sz dr pR pP pL pN qR qP qL qN aR aP aL aN bR bP bL bN) H := xP_perm (xPermC fun _ x => by simp only [wX, wW, List.count_append]; omega) hP
      have hD : va_D A (wX k b ag as ap aq aa ab M N C Gr Pr Pa I Ln Sz dr pR pP pL pN qR qP qL qN aR aP aL aN bR bP bL bN) := xD_perm (xPermC fun _ x => by simp only [wX, wW, List.count_append]; omega) hD
      refine lv_iload_n hx hb dX4_row_20 rfl (lv_at hl 1 rfl) ?_
      have hp : xPerm (wX k b ag as ap aq aa ab M N C Gr Pr Pa I Ln Sz dr pR pP pL pN qR qP qL qN aR aP aL aN bR bP bL bN) ((wT k aq qR qP qL qN) ++ ([((b 0, .inr (4, [.ref (ag 0), .ref (b 1), .ref (b 2), .ref (aa 0), .ref (ab 0), .ref (b 3)])) : Nat × va_E)] ++ ([((b 1, .inl (k 5, 4, rfs (fun i => as (2 * i)))) : Nat × va_E)] ++ ([((b 2, .inr (3, [.ref (ap 0), .ref (aq 0)])) : Nat × va_E)] ++ ([((b 3, .inl (k 0, 40, .inl dr)) : Nat × va_E)] ++ (wG k ag M N C Gr Pr Pa ++ (wSS k as I Ln Sz ++ (wT k ap pR pP pL pN ++ (wT k aa aR aP aL aN ++ wT k ab bR bP bL bN))))))))) := (xPermC fun _ x => by simp only [wX, wW, List.count_append]; omega)
      refine xCallI (w := wT k aq qR qP qL qN) (r := [((b 0, .inr (4, [.ref (ag 0), .ref (b 1), .ref (b 2), .ref (aa 0), .ref (ab 0), .ref (b 3)])) : Nat × va_E)] ++ ([((b 1, .inl (k 5, 4, rfs (fun i => as (2 * i)))) : Nat × va_E)] ++ ([((b 2, .inr (3, [.ref (ap 0), .ref (aq 0)])) : Nat × va_E)] ++ ([((b 3, .inl (k 0, 40, .inl dr)) : Nat × va_E)] ++ (wG k ag M N C Gr Pr Pa ++ (wSS k as I Ln Sz ++ (wT k ap pR pP pL pN ++ (wT k aa aR aP aL aN ++ wT k ab bR bP bL bN)))))))) (va_runV (As := [.int x1]) (rest := []) ⟨hx, hb, hml, hown, hts⟩ (c_X2_lengthOf aq qR qP qL qN x1 hf) (cwV 1 hts gX4_row_X2_lengthOf rfl rfl rfl (by decide +kernel) ⟨Nat.le_of_ble_eq_true rfl, Nat.le_of_ble_eq_true rfl⟩) (xPreV hG hP hD hp (ci := 2) rfl (i := 0) rfl) rfl rfl hl.1 rfl (lv_room (Nat.le_of_ble_eq_true rfl)) dX4_row_21 ⟨Nat.zero_le _, Nat.zero_le _⟩) hP hD hS hp (fun _ => wT_adr) (fun r_5 _ H locs hf hP hD hS => ?_)
      have hP : va_P D vwCl (wX k b ag as ap aq aa ab M N C Gr Pr Pa I Ln Sz dr pR pP pL pN qR qP qL qN aR aP aL aN bR bP bL bN) H := xP_perm (xPermC fun _ x => by simp only [wX, wW, List.count_append]; omega) hP
      have hD : va_D A (wX k b ag as ap aq aa ab M N C Gr Pr Pa I Ln Sz dr pR pP pL pN qR qP qL qN aR aP aL aN bR bP bL bN) := xD_perm (xPermC fun _ x => by simp only [wX, wW, List.count_append]; omega) hD
      exact W.iret (v := r_5) hx hb hr (fun t ht hW => ⟨⟨r_5, (), rfl, hf, xHp ht hP⟩, hS.F ht⟩) hS.2.2 dX4_row_24 hlocks
  · have hf := hf.1 c_2
    refine lv_iconst (v := (-1)) hx hb dX4_row_10 (by decide) ?_
    exact W.iret (v := (-1)) hx hb hr (fun t ht hW => ⟨⟨((-1) : Int32), (), rfl, hf, xHp ht hP⟩, hS.F ht⟩) hS.2.2 dX4_row_11 hlocks

def p_X4_isWhich (x0 : Int32) (post : Int32 → Prop) : Prop := p_X4_isWithin x0 0 1 (fun r_1 => (narrow .boolean (.int r_1) = .int r_1 ∧ post r_1))
set_option maxHeartbeats 4000000 in
set_option maxRecDepth 100000 in
theorem c_X4_isWhich {l : Launch} {D : va_G} {k : Nat → ClassId} (x0 : Int32) {post : Int32 → Prop} (hf : p_X4_isWhich x0 post) : ctI l yX4_isWhich wsX4_isWhich ({ frames := 1, cells := 0, slots := 0, locals := 22 }) D k [.int x0] ([]) (fun u : Unit => []) (fun (r : Int32) (u : Unit) => post r) := by
  refine Met.ofW (cc := cX4_isWhich) (maxL := 1) (ret := (some .boolean)) (by decide) rfl ?_
  intro p e s m args below meth c s₁ B hml hv
  obtain ⟨rfl, hP, hG, hD0⟩ := hv
  have C0 : xM p s m ([.int x0] : List Value).toArray meth c cX4_isWhich 1 RX4 (some .boolean) wsX4_isWhich := ⟨B.exec, B.bytes, B.returns, atoms_spec (ws := wsX4_isWhich) B.pre, findClass_of_methodNamed B.named, B.notSynchronized, hml⟩
  obtain ⟨hx, hb, hr, hts, hown, hlocks, hml⟩ := id C0
  have hD := xSelf hD0
  have hS : va_S (xIn ([])) s.heap s.heap [] := va_S.rf
  generalize xIn ([]) = A at hD hS ⊢
  have hl := lv_entry ([.int x0]) (n := 1) (Nat.le_of_ble_eq_true rfl)
  rw [lg_entry_eq]
  generalize (lg_sl ([.int x0]) ++ List.replicate (1 - (lg_sl ([.int x0])).length) Slot.unset).toArray = ls at hl ⊢
  have hl : lv_has ls 1 [(0, .int x0)] := hl
  unfold p_X4_isWhich at hf
  refine lv_iload_n hx hb dX4_isWhich_0 rfl (lv_at hl 0 rfl) ?_
  refine lv_iconst (v := 0) hx hb dX4_isWhich_1 (by decide) ?_
  refine lv_iconst (v := 1) hx hb dX4_isWhich_2 (by decide) ?_
  have hp : xPerm ([]) (([]) ++ ([])) := (List.Perm.refl _)
  refine xCallI (w := []) (r := []) (va_runS (As := [.int x0, .int 0, .int 1]) (rest := []) ⟨hx, hb, hml, hown, hts⟩ (c_X4_isWithin x0 0 1 hf) (va_cwS 3 hts gX4_isWhich_X4_isWithin rfl rfl rfl (by decide +kernel) ⟨Nat.le_of_ble_eq_true rfl, Nat.le_of_ble_eq_true rfl⟩) (xPreS hG hP hD hp) rfl rfl hl.1 rfl (lv_room (Nat.le_of_ble_eq_true rfl)) dX4_isWhich_3 ⟨Nat.zero_le _, Nat.zero_le _⟩) hP hD hS hp (fun _ => rfl) (fun r_1 _ H locs hf hP hD hS => ?_)
  have hP : va_P D vwCl ([]) H := hP
  have hD : va_D A ([]) := hD
  obtain ⟨h_2, hf⟩ := hf
  exact W.zret (v := r_1) hx hb hr h_2 (fun t ht hW => ⟨⟨r_1, (), rfl, hf, xHp ht hP⟩, hS.F ht⟩) hS.2.2 dX4_isWhich_6 hlocks

def p_X4_place (pL : Nat → Int32) (pN : Nat → Nat → Int32) (qL : Nat → Int32) (qN : Nat → Nat → Int32) (x1 : Int32) (x2 : Int32) (x3 : Int32) (post : Int32 → Prop) : Prop := p_X4_isWhich x1 (fun r_1 => ((r_1 = 0 → post (-1)) ∧ (¬ r_1 = 0 → p_X4_isWithin x2 0 8 (fun r_3 => ((r_3 = 0 → post (-1)) ∧ (¬ r_3 = 0 → ((0 ≤ x3 → ((x1 = 0 → p_X2_has pL x2 x3 (fun r_7 => ((r_7 = 0 → post (-4)) ∧ (¬ r_7 = 0 → p_X2_at pL pN x2 x3 (fun r_9 => post r_9))))) ∧ (¬ x1 = 0 → p_X2_has qL x2 x3 (fun r_10 => ((r_10 = 0 → post (-4)) ∧ (¬ r_10 = 0 → p_X2_at qL qN x2 x3 (fun r_12 => post r_12))))))) ∧ (¬ 0 ≤ x3 → post (-1)))))))))
theorem in_X4_place_X4 : ∀ w ∈ u_ws RX4 TX4 6, w ∈ wsX4_place := by decide +kernel
theorem lk_X4_place_26 : Cond.fieldLink RX4 26 "GrowingCorners" "word" "LGrowingCorners$Word;" ∈ wsX4_place := by decide +kernel
set_option maxHeartbeats 4000000 in
set_option maxRecDepth 100000 in
theorem c_X4_place {l : Launch} {D : va_G} {k : Nat → ClassId} (b : Nat → Nat) (ag : Nat → Nat) (as : Nat → Nat) (ap : Nat → Nat) (aq : Nat → Nat) (aa : Nat → Nat) (ab : Nat → Nat) (M : Int32) (N : Int32) (C : Nat → Nat → Int32) (Gr : Nat → Nat → Int32) (Pr : Nat → Nat → Int64) (Pa : Nat → Nat → Int32) (I : Nat → Nat → Int64) (Ln : Nat → Int32) (Sz : Nat → Int32) (dr : Nat → Int32) (pR : Int32) (pP : Int32) (pL : Nat → Int32) (pN : Nat → Nat → Int32) (qR : Int32) (qP : Int32) (qL : Nat → Int32) (qN : Nat → Nat → Int32) (aR : Int32) (aP : Int32) (aL : Nat → Int32) (aN : Nat → Nat → Int32) (bR : Int32) (bP : Int32) (bL : Nat → Int32) (bN : Nat → Nat → Int32) (x1 : Int32) (x2 : Int32) (x3 : Int32) {post : Int32 → Prop} (hf : p_X4_place pL pN qL qN x1 x2 x3 post) : ctI l yX4_place wsX4_place ({ frames := 3, cells := 0, slots := 0, locals := 65 }) D k [.ref (b 0), .int x1, .int x2, .int x3] (wX k b ag as ap aq aa ab M N C Gr Pr Pa I Ln Sz dr pR pP pL pN qR qP qL qN aR aP aL aN bR bP bL bN) (fun u : Unit => wX k b ag as ap aq aa ab M N C Gr Pr Pa I Ln Sz dr pR pP pL pN qR qP qL qN aR aP aL aN bR bP bL bN) (fun (r : Int32) (u : Unit) => post r) := by
  refine Met.ofW (cc := cX4_place) (maxL := 5) (ret := (some .int)) (by decide) rfl ?_
  intro p e s m args below meth c s₁ B hml hv
  obtain ⟨rfl, hP, hG, hD0⟩ := hv
  have C0 : xM p s m ([.ref (b 0), .int x1, .int x2, .int x3] : List Value).toArray meth c cX4_place 5 RX4 (some .int) wsX4_place := ⟨B.exec, B.bytes, B.returns, atoms_spec (ws := wsX4_place) B.pre, findClass_of_methodNamed B.named, B.notSynchronized, hml⟩
  obtain ⟨hx, hb, hr, hts, hown, hlocks, hml⟩ := id C0
  have hD := xSelf hD0
  have hS : va_S (xIn (wX k b ag as ap aq aa ab M N C Gr Pr Pa I Ln Sz dr pR pP pL pN qR qP qL qN aR aP aL aN bR bP bL bN)) s.heap s.heap [] := va_S.rf
  generalize xIn (wX k b ag as ap aq aa ab M N C Gr Pr Pa I Ln Sz dr pR pP pL pN qR qP qL qN aR aP aL aN bR bP bL bN) = A at hD hS ⊢
  have hl := lv_entry ([.ref (b 0), .int x1, .int x2, .int x3]) (n := 5) (Nat.le_of_ble_eq_true rfl)
  rw [lg_entry_eq]
  generalize (lg_sl ([.ref (b 0), .int x1, .int x2, .int x3]) ++ List.replicate (5 - (lg_sl ([.ref (b 0), .int x1, .int x2, .int x3])).length) Slot.unset).toArray = ls at hl ⊢
  have hl : lv_has ls 5 [(0, .ref (b 0)), (1, .int x1), (2, .int x2), (3, .int x3)] := hl
  unfold p_X4_place at hf
  refine lv_iload_n hx hb dX4_place_0 rfl (lv_at hl 1 rfl) ?_
  have hp : xPerm (wX k b ag as ap aq aa ab M N C Gr Pr Pa I Ln Sz dr pR pP pL pN qR qP qL qN aR aP aL aN bR bP bL bN) (([]) ++ (wX k b ag as ap aq aa ab M N C Gr Pr Pa I Ln Sz dr pR pP pL pN qR qP qL qN aR aP aL aN bR bP bL bN)) := (List.Perm.refl _)
  refine xCallI (w := []) (r := wX k b ag as ap aq aa ab M N C Gr Pr Pa I Ln Sz dr pR pP pL pN qR qP qL qN aR aP aL aN bR bP bL bN) (va_runS (As := [.int x1]) (rest := []) ⟨hx, hb, hml, hown, hts⟩ (c_X4_isWhich x1 hf) (va_cwS 1 hts gX4_place_X4_isWhich rfl rfl rfl (by decide +kernel) ⟨Nat.le_of_ble_eq_true rfl, Nat.le_of_ble_eq_true rfl⟩) (xPreS hG hP hD hp) rfl rfl hl.1 rfl (lv_room (Nat.le_of_ble_eq_true rfl)) dX4_place_1 ⟨Nat.zero_le _, Nat.zero_le _⟩) hP hD hS hp (fun _ => rfl) (fun r_1 _ H locs hf hP hD hS => ?_)
  have hP : va_P D vwCl (wX k b ag as ap aq aa ab M N C Gr Pr Pa I Ln Sz dr pR pP pL pN qR qP qL qN aR aP aL aN bR bP bL bN) H := hP
  have hD : va_D A (wX k b ag as ap aq aa ab M N C Gr Pr Pa I Ln Sz dr pR pP pL pN qR qP qL qN aR aP aL aN bR bP bL bN) := hD
  refine lv_if_eq (tgt := 21) hx hb dX4_place_4 (by decide) (fun c_2 => ?_) (fun c_2 => ?_)
  · have hf := hf.1 c_2
    refine lv_iconst (v := (-1)) hx hb dX4_place_21 (by decide) ?_
    exact W.iret (v := (-1)) hx hb hr (fun t ht hW => ⟨⟨((-1) : Int32), (), rfl, hf, xHp ht hP⟩, hS.F ht⟩) hS.2.2 dX4_place_22 hlocks
  · have hf := hf.2 c_2
    refine lv_iload_n hx hb dX4_place_7 rfl (lv_at hl 2 rfl) ?_
    refine lv_iconst (v := 0) hx hb dX4_place_8 (by decide) ?_
    refine lv_bipush (v := 8) hx hb dX4_place_9 (by decide) ?_
    have hp : xPerm (wX k b ag as ap aq aa ab M N C Gr Pr Pa I Ln Sz dr pR pP pL pN qR qP qL qN aR aP aL aN bR bP bL bN) (([]) ++ (wX k b ag as ap aq aa ab M N C Gr Pr Pa I Ln Sz dr pR pP pL pN qR qP qL qN aR aP aL aN bR bP bL bN)) := (List.Perm.refl _)
    refine xCallI (w := []) (r := wX k b ag as ap aq aa ab M N C Gr Pr Pa I Ln Sz dr pR pP pL pN qR qP qL qN aR aP aL aN bR bP bL bN) (va_runS (As := [.int x2, .int 0, .int 8]) (rest := []) ⟨hx, hb, hml, hown, hts⟩ (c_X4_isWithin x2 0 8 hf) (va_cwS 3 hts gX4_place_X4_isWithin rfl rfl rfl (by decide +kernel) ⟨Nat.le_of_ble_eq_true rfl, Nat.le_of_ble_eq_true rfl⟩) (xPreS hG hP hD hp) rfl rfl hl.1 rfl (lv_room (Nat.le_of_ble_eq_true rfl)) dX4_place_11 ⟨Nat.zero_le _, Nat.zero_le _⟩) hP hD hS hp (fun _ => rfl) (fun r_3 _ H locs hf hP hD hS => ?_)
    have hP : va_P D vwCl (wX k b ag as ap aq aa ab M N C Gr Pr Pa I Ln Sz dr pR pP pL pN qR qP qL qN aR aP aL aN bR bP bL bN) H := hP
    have hD : va_D A (wX k b ag as ap aq aa ab M N C Gr Pr Pa I Ln Sz dr pR pP pL pN qR qP qL qN aR aP aL aN bR bP bL bN) := hD
    refine lv_if_eq (tgt := 21) hx hb dX4_place_14 (by decide) (fun c_4 => ?_) (fun c_4 => ?_)
    · have hf := hf.1 c_4
      refine lv_iconst (v := (-1)) hx hb dX4_place_21 (by decide) ?_
      exact W.iret (v := (-1)) hx hb hr (fun t ht hW => ⟨⟨((-1) : Int32), (), rfl, hf, xHp ht hP⟩, hS.F ht⟩) hS.2.2 dX4_place_22 hlocks
    · have hf := hf.2 c_4
      refine lv_iload_n hx hb dX4_place_17 rfl (lv_at hl 3 rfl) ?_
      refine lv_if_ge (tgt := 23) hx hb dX4_place_18 (by decide) (fun c_5 => ?_) (fun c_5 => ?_)
      · have hf := hf.1 c_5
        refine lv_aload_n hx hb dX4_place_23 rfl (lv_at hl 0 rfl) ?_
        refine va_get (D := D) (ci := 4) (C := RX4) (T := TX4) (N := 6) hx hb hts in_X4_place_X4 hown hG.1 hP 0 rfl rfl 2 (by decide) (hts _ lk_X4_place_26) (fun _ h9 => h9) rfl dX4_place_24 ?_
        refine lv_iload_n hx hb dX4_place_27 rfl (lv_at hl 1 rfl) ?_
        have hp : xPerm (wX k b ag as ap aq aa ab M N C Gr Pr Pa I Ln Sz dr pR pP pL pN qR qP qL qN aR aP aL aN bR bP bL bN) ((wW k (b 2) ap aq pR pP pL pN qR qP qL qN) ++ ([((b 0, .inr (4, [.ref (ag 0), .ref (b 1), .ref (b 2), .ref (aa 0), .ref (ab 0), .ref (b 3)])) : Nat × va_E)] ++ ([((b 1, .inl (k 5, 4, rfs (fun i => as (2 * i)))) : Nat × va_E)] ++ ([((b 3, .inl (k 0, 40, .inl dr)) : Nat × va_E)] ++ (wG k ag M N C Gr Pr Pa ++ (wSS k as I Ln Sz ++ (wT k aa aR aP aL aN ++ wT k ab bR bP bL bN))))))) := (xPermC fun _ x => by simp only [wX, wW, List.count_append]; omega)
        by_cases c_6 : x1 = 0
        · have hf := hf.1 c_6
          refine xCallR (w := wW k (b 2) ap aq pR pP pL pN qR qP qL qN) (r := [((b 0, .inr (4, [.ref (ag 0), .ref (b 1), .ref (b 2), .ref (aa 0), .ref (ab 0), .ref (b 3)])) : Nat × va_E)] ++ ([((b 1, .inl (k 5, 4, rfs (fun i => as (2 * i)))) : Nat × va_E)] ++ ([((b 3, .inl (k 0, 40, .inl dr)) : Nat × va_E)] ++ (wG k ag M N C Gr Pr Pa ++ (wSS k as I Ln Sz ++ (wT k aa aR aP aL aN ++ wT k ab bR bP bL bN)))))) (va_runV (As := [.int x1]) (rest := []) ⟨hx, hb, hml, hown, hts⟩ (c_X3_tableau_p (b 2) ap aq pR pP pL pN qR qP qL qN x1 c_6) (cwV 1 hts gX4_place_X3_tableau rfl rfl rfl (by decide +kernel) ⟨Nat.le_of_ble_eq_true rfl, Nat.le_of_ble_eq_true rfl⟩) (xPreV hG hP hD hp (ci := 3) rfl (i := 0) rfl) rfl rfl hl.1 rfl (lv_room (Nat.le_of_ble_eq_true rfl)) dX4_place_28 ⟨Nat.zero_le _, Nat.zero_le _⟩) hP hD hS hp (fun r0 H locs h0 hP hD hS => ?_)
          subst h0
          have hP : va_P D vwCl (wX k b ag as ap aq aa ab M N C Gr Pr Pa I Ln Sz dr pR pP pL pN qR qP qL qN aR aP aL aN bR bP bL bN) H := xP_perm (xPermC fun _ x => by simp only [wX, wW, List.count_append]; omega) hP
          have hD : va_D A (wX k b ag as ap aq aa ab M N C Gr Pr Pa I Ln Sz dr pR pP pL pN qR qP qL qN aR aP aL aN bR bP bL bN) := xD_perm (xPermC fun _ x => by simp only [wX, wW, List.count_append]; omega) hD
          refine lv_astore (lv' := [(4, .ref (ap 0)), (0, .ref (b 0)), (1, .int x1), (2, .int x2), (3, .int x3)]) hx hb dX4_place_31 hl (by decide) rfl (fun ls hl => ?_)
          refine lv_aload hx hb dX4_place_33 (lv_at hl 0 rfl) ?_
          refine lv_iload_n hx hb dX4_place_35 rfl (lv_at hl 3 rfl) ?_
          refine lv_iload_n hx hb dX4_place_36 rfl (lv_at hl 4 rfl) ?_
          have hp : xPerm (wX k b ag as ap aq aa ab M N C Gr Pr Pa I Ln Sz dr pR pP pL pN qR qP qL qN aR aP aL aN bR bP bL bN) ((wT k ap pR pP pL pN) ++ ([((b 0, .inr (4, [.ref (ag 0), .ref (b 1), .ref (b 2), .ref (aa 0), .ref (ab 0), .ref (b 3)])) : Nat × va_E)] ++ ([((b 1, .inl (k 5, 4, rfs (fun i => as (2 * i)))) : Nat × va_E)] ++ ([((b 2, .inr (3, [.ref (ap 0), .ref (aq 0)])) : Nat × va_E)] ++ ([((b 3, .inl (k 0, 40, .inl dr)) : Nat × va_E)] ++ (wG k ag M N C Gr Pr Pa ++ (wSS k as I Ln Sz ++ (wT k aq qR qP qL qN ++ (wT k aa aR aP aL aN ++ wT k ab bR bP bL bN))))))))) := (xPermC fun _ x => by simp only [wX, wW, List.count_append]; omega)
          refine xCallI (w := wT k ap pR pP pL pN) (r := [((b 0, .inr (4, [.ref (ag 0), .ref (b 1), .ref (b 2), .ref (aa 0), .ref (ab 0), .ref (b 3)])) : Nat × va_E)] ++ ([((b 1, .inl (k 5, 4, rfs (fun i => as (2 * i)))) : Nat × va_E)] ++ ([((b 2, .inr (3, [.ref (ap 0), .ref (aq 0)])) : Nat × va_E)] ++ ([((b 3, .inl (k 0, 40, .inl dr)) : Nat × va_E)] ++ (wG k ag M N C Gr Pr Pa ++ (wSS k as I Ln Sz ++ (wT k aq qR qP qL qN ++ (wT k aa aR aP aL aN ++ wT k ab bR bP bL bN)))))))) (va_runV (As := [.int x2, .int x3]) (rest := []) ⟨hx, hb, hml, hown, hts⟩ (c_X2_has ap pR pP pL pN x2 x3 hf) (cwV 2 hts gX4_place_X2_has rfl rfl rfl (by decide +kernel) ⟨Nat.le_of_ble_eq_true rfl, Nat.le_of_ble_eq_true rfl⟩) (xPreV hG hP hD hp (ci := 2) rfl (i := 0) rfl) rfl rfl hl.1 rfl (lv_room (Nat.le_of_ble_eq_true rfl)) dX4_place_37 ⟨Nat.zero_le _, Nat.zero_le _⟩) hP hD hS hp (fun _ => wT_adr) (fun r_7 _ H locs hf hP hD hS => ?_)
          have hP : va_P D vwCl (wX k b ag as ap aq aa ab M N C Gr Pr Pa I Ln Sz dr pR pP pL pN qR qP qL qN aR aP aL aN bR bP bL bN) H := xP_perm (xPermC fun _ x => by simp only [wX, wW, List.count_append]; omega) hP
          have hD : va_D A (wX k b ag as ap aq aa ab M N C Gr Pr Pa I Ln Sz dr pR pP pL pN qR qP qL qN aR aP aL aN bR bP bL bN) := xD_perm (xPermC fun _ x => by simp only [wX, wW, List.count_append]; omega) hD
          refine lv_if_eq (tgt := 53) hx hb dX4_place_40 (by decide) (fun c_8 => ?_) (fun c_8 => ?_)
          · have hf := hf.1 c_8
            refine lv_bipush (v := (-4)) hx hb dX4_place_53 (by decide) ?_
            exact W.iret (v := (-4)) hx hb hr (fun t ht hW => ⟨⟨((-4) : Int32), (), rfl, hf, xHp ht hP⟩, hS.F ht⟩) hS.2.2 dX4_place_55 hlocks
          · have hf := hf.2 c_8
            refine lv_aload hx hb dX4_place_43 (lv_at hl 0 rfl) ?_
            refine lv_iload_n hx hb dX4_place_45 rfl (lv_at hl 3 rfl) ?_
            refine lv_iload_n hx hb dX4_place_46 rfl (lv_at hl 4 rfl) ?_
            have hp : xPerm (wX k b ag as ap aq aa ab M N C Gr Pr Pa I Ln Sz dr pR pP pL pN qR qP qL qN aR aP aL aN bR bP bL bN) ((wT k ap pR pP pL pN) ++ ([((b 0, .inr (4, [.ref (ag 0), .ref (b 1), .ref (b 2), .ref (aa 0), .ref (ab 0), .ref (b 3)])) : Nat × va_E)] ++ ([((b 1, .inl (k 5, 4, rfs (fun i => as (2 * i)))) : Nat × va_E)] ++ ([((b 2, .inr (3, [.ref (ap 0), .ref (aq 0)])) : Nat × va_E)] ++ ([((b 3, .inl (k 0, 40, .inl dr)) : Nat × va_E)] ++ (wG k ag M N C Gr Pr Pa ++ (wSS k as I Ln Sz ++ (wT k aq qR qP qL qN ++ (wT k aa aR aP aL aN ++ wT k ab bR bP bL bN))))))))) := (xPermC fun _ x => by simp only [wX, wW, List.count_append]; omega)
            refine xCallI (w := wT k ap pR pP pL pN) (r := [((b 0, .inr (4, [.ref (ag 0), .ref (b 1), .ref (b 2), .ref (aa 0), .ref (ab 0), .ref (b 3)])) : Nat × va_E)] ++ ([((b 1, .inl (k 5, 4, rfs (fun i => as (2 * i)))) : Nat × va_E)] ++ ([((b 2, .inr (3, [.ref (ap 0), .ref (aq 0)])) : Nat × va_E)] ++ ([((b 3, .inl (k 0, 40, .inl dr)) : Nat × va_E)] ++ (wG k ag M N C Gr Pr Pa ++ (wSS k as I Ln Sz ++ (wT k aq qR qP qL qN ++ (wT k aa aR aP aL aN ++ wT k ab bR bP bL bN)))))))) (va_runV (As := [.int x2, .int x3]) (rest := []) ⟨hx, hb, hml, hown, hts⟩ (c_X2_at ap pR pP pL pN x2 x3 hf) (cwV 2 hts gX4_place_X2_at rfl rfl rfl (by decide +kernel) ⟨Nat.le_of_ble_eq_true rfl, Nat.le_of_ble_eq_true rfl⟩) (xPreV hG hP hD hp (ci := 2) rfl (i := 0) rfl) rfl rfl hl.1 rfl (lv_room (Nat.le_of_ble_eq_true rfl)) dX4_place_47 ⟨Nat.zero_le _, Nat.zero_le _⟩) hP hD hS hp (fun _ => wT_adr) (fun r_9 _ H locs hf hP hD hS => ?_)
            have hP : va_P D vwCl (wX k b ag as ap aq aa ab M N C Gr Pr Pa I Ln Sz dr pR pP pL pN qR qP qL qN aR aP aL aN bR bP bL bN) H := xP_perm (xPermC fun _ x => by simp only [wX, wW, List.count_append]; omega) hP
            have hD : va_D A (wX k b ag as ap aq aa ab M N C Gr Pr Pa I Ln Sz dr pR pP pL pN qR qP qL qN aR aP aL aN bR bP bL bN) := xD_perm (xPermC fun _ x => by simp only [wX, wW, List.count_append]; omega) hD
            refine lv_goto (tgt := 55) hx hb dX4_place_50 (by decide) ?_
            exact W.iret (v := r_9) hx hb hr (fun t ht hW => ⟨⟨r_9, (), rfl, hf, xHp ht hP⟩, hS.F ht⟩) hS.2.2 dX4_place_55 hlocks
        · have hf := hf.2 c_6
          refine xCallR (w := wW k (b 2) ap aq pR pP pL pN qR qP qL qN) (r := [((b 0, .inr (4, [.ref (ag 0), .ref (b 1), .ref (b 2), .ref (aa 0), .ref (ab 0), .ref (b 3)])) : Nat × va_E)] ++ ([((b 1, .inl (k 5, 4, rfs (fun i => as (2 * i)))) : Nat × va_E)] ++ ([((b 3, .inl (k 0, 40, .inl dr)) : Nat × va_E)] ++ (wG k ag M N C Gr Pr Pa ++ (wSS k as I Ln Sz ++ (wT k aa aR aP aL aN ++ wT k ab bR bP bL bN)))))) (va_runV (As := [.int x1]) (rest := []) ⟨hx, hb, hml, hown, hts⟩ (c_X3_tableau_q (b 2) ap aq pR pP pL pN qR qP qL qN x1 c_6) (cwV 1 hts gX4_place_X3_tableau rfl rfl rfl (by decide +kernel) ⟨Nat.le_of_ble_eq_true rfl, Nat.le_of_ble_eq_true rfl⟩) (xPreV hG hP hD hp (ci := 3) rfl (i := 0) rfl) rfl rfl hl.1 rfl (lv_room (Nat.le_of_ble_eq_true rfl)) dX4_place_28 ⟨Nat.zero_le _, Nat.zero_le _⟩) hP hD hS hp (fun r0 H locs h0 hP hD hS => ?_)
          subst h0
          have hP : va_P D vwCl (wX k b ag as ap aq aa ab M N C Gr Pr Pa I Ln Sz dr pR pP pL pN qR qP qL qN aR aP aL aN bR bP bL bN) H := xP_perm (xPermC fun _ x => by simp only [wX, wW, List.count_append]; omega) hP
          have hD : va_D A (wX k b ag as ap aq aa ab M N C Gr Pr Pa I Ln Sz dr pR pP pL pN qR qP qL qN aR aP aL aN bR bP bL bN) := xD_perm (xPermC fun _ x => by simp only [wX, wW, List.count_append]; omega) hD
          refine lv_astore (lv' := [(4, .ref (aq 0)), (0, .ref (b 0)), (1, .int x1), (2, .int x2), (3, .int x3)]) hx hb dX4_place_31 hl (by decide) rfl (fun ls hl => ?_)
          refine lv_aload hx hb dX4_place_33 (lv_at hl 0 rfl) ?_
          refine lv_iload_n hx hb dX4_place_35 rfl (lv_at hl 3 rfl) ?_
          refine lv_iload_n hx hb dX4_place_36 rfl (lv_at hl 4 rfl) ?_
          have hp : xPerm (wX k b ag as ap aq aa ab M N C Gr Pr Pa I Ln Sz dr pR pP pL pN qR qP qL qN aR aP aL aN bR bP bL bN) ((wT k aq qR qP qL qN) ++ ([((b 0, .inr (4, [.ref (ag 0), .ref (b 1), .ref (b 2), .ref (aa 0), .ref (ab 0), .ref (b 3)])) : Nat × va_E)] ++ ([((b 1, .inl (k 5, 4, rfs (fun i => as (2 * i)))) : Nat × va_E)] ++ ([((b 2, .inr (3, [.ref (ap 0), .ref (aq 0)])) : Nat × va_E)] ++ ([((b 3, .inl (k 0, 40, .inl dr)) : Nat × va_E)] ++ (wG k ag M N C Gr Pr Pa ++ (wSS k as I Ln Sz ++ (wT k ap pR pP pL pN ++ (wT k aa aR aP aL aN ++ wT k ab bR bP bL bN))))))))) := (xPermC fun _ x => by simp only [wX, wW, List.count_append]; omega)
          refine xCallI (w := wT k aq qR qP qL qN) (r := [((b 0, .inr (4, [.ref (ag 0), .ref (b 1), .ref (b 2), .ref (aa 0), .ref (ab 0), .ref (b 3)])) : Nat × va_E)] ++ ([((b 1, .inl (k 5, 4, rfs (fun i => as (2 * i)))) : Nat × va_E)] ++ ([((b 2, .inr (3, [.ref (ap 0), .ref (aq 0)])) : Nat × va_E)] ++ ([((b 3, .inl (k 0, 40, .inl dr)) : Nat × va_E)] ++ (wG k ag M N C Gr Pr Pa ++ (wSS k as I Ln Sz ++ (wT k ap pR pP pL pN ++ (wT k aa aR aP aL aN ++ wT k ab bR bP bL bN)))))))) (va_runV (As := [.int x2, .int x3]) (rest := []) ⟨hx, hb, hml, hown, hts⟩ (c_X2_has aq qR qP qL qN x2 x3 hf) (cwV 2 hts gX4_place_X2_has rfl rfl rfl (by decide +kernel) ⟨Nat.le_of_ble_eq_true rfl, Nat.le_of_ble_eq_true rfl⟩) (xPreV hG hP hD hp (ci := 2) rfl (i := 0) rfl) rfl rfl hl.1 rfl (lv_room (Nat.le_of_ble_eq_true rfl)) dX4_place_37 ⟨Nat.zero_le _, Nat.zero_le _⟩) hP hD hS hp (fun _ => wT_adr) (fun r_10 _ H locs hf hP hD hS => ?_)
          have hP : va_P D vwCl (wX k b ag as ap aq aa ab M N C Gr Pr Pa I Ln Sz dr pR pP pL pN qR qP qL qN aR aP aL aN bR bP bL bN) H := xP_perm (xPermC fun _ x => by simp only [wX, wW, List.count_append]; omega) hP
          have hD : va_D A (wX k b ag as ap aq aa ab M N C Gr Pr Pa I Ln Sz dr pR pP pL pN qR qP qL qN aR aP aL aN bR bP bL bN) := xD_perm (xPermC fun _ x => by simp only [wX, wW, List.count_append]; omega) hD
          refine lv_if_eq (tgt := 53) hx hb dX4_place_40 (by decide) (fun c_11 => ?_) (fun c_11 => ?_)
          · have hf := hf.1 c_11
            refine lv_bipush (v := (-4)) hx hb dX4_place_53 (by decide) ?_
            exact W.iret (v := (-4)) hx hb hr (fun t ht hW => ⟨⟨((-4) : Int32), (), rfl, hf, xHp ht hP⟩, hS.F ht⟩) hS.2.2 dX4_place_55 hlocks
          · have hf := hf.2 c_11
            refine lv_aload hx hb dX4_place_43 (lv_at hl 0 rfl) ?_
            refine lv_iload_n hx hb dX4_place_45 rfl (lv_at hl 3 rfl) ?_
            refine lv_iload_n hx hb dX4_place_46 rfl (lv_at hl 4 rfl) ?_
            have hp : xPerm (wX k b ag as ap aq aa ab M N C Gr Pr Pa I Ln Sz dr pR pP pL pN qR qP qL qN aR aP aL aN bR bP bL bN) ((wT k aq qR qP qL qN) ++ ([((b 0, .inr (4, [.ref (ag 0), .ref (b 1), .ref (b 2), .ref (aa 0), .ref (ab 0), .ref (b 3)])) : Nat × va_E)] ++ ([((b 1, .inl (k 5, 4, rfs (fun i => as (2 * i)))) : Nat × va_E)] ++ ([((b 2, .inr (3, [.ref (ap 0), .ref (aq 0)])) : Nat × va_E)] ++ ([((b 3, .inl (k 0, 40, .inl dr)) : Nat × va_E)] ++ (wG k ag M N C Gr Pr Pa ++ (wSS k as I Ln Sz ++ (wT k ap pR pP pL pN ++ (wT k aa aR aP aL aN ++ wT k ab bR bP bL bN))))))))) := (xPermC fun _ x => by simp only [wX, wW, List.count_append]; omega)
            refine xCallI (w := wT k aq qR qP qL qN) (r := [((b 0, .inr (4, [.ref (ag 0), .ref (b 1), .ref (b 2), .ref (aa 0), .ref (ab 0), .ref (b 3)])) : Nat × va_E)] ++ ([((b 1, .inl (k 5, 4, rfs (fun i => as (2 * i)))) : Nat × va_E)] ++ ([((b 2, .inr (3, [.ref (ap 0), .ref (aq 0)])) : Nat × va_E)] ++ ([((b 3, .inl (k 0, 40, .inl dr)) : Nat × va_E)] ++ (wG k ag M N C Gr Pr Pa ++ (wSS k as I Ln Sz ++ (wT k ap pR pP pL pN ++ (wT k aa aR aP aL aN ++ wT k ab bR bP bL bN)))))))) (va_runV (As := [.int x2, .int x3]) (rest := []) ⟨hx, hb, hml, hown, hts⟩ (c_X2_at aq qR qP qL qN x2 x3 hf) (cwV 2 hts gX4_place_X2_at rfl rfl rfl (by decide +kernel) ⟨Nat.le_of_ble_eq_true rfl, Nat.le_of_ble_eq_true rfl⟩) (xPreV hG hP hD hp (ci := 2) rfl (i := 0) rfl) rfl rfl hl.1 rfl (lv_room (Nat.le_of_ble_eq_true rfl)) dX4_place_47 ⟨Nat.zero_le _, Nat.zero_le _⟩) hP hD hS hp (fun _ => wT_adr) (fun r_12 _ H locs hf hP hD hS => ?_)
            have hP : va_P D vwCl (wX k b ag as ap aq aa ab M N C Gr Pr Pa I Ln Sz dr pR pP pL pN qR qP qL qN aR aP aL aN bR bP bL bN) H := xP_perm (xPermC fun _ x => by simp only [wX, wW, List.count_append]; omega) hP
            have hD : va_D A (wX k b ag as ap aq aa ab M N C Gr Pr Pa I Ln Sz dr pR pP pL pN qR qP qL qN aR aP aL aN bR bP bL bN) := xD_perm (xPermC fun _ x => by simp only [wX, wW, List.count_append]; omega) hD
            refine lv_goto (tgt := 55) hx hb dX4_place_50 (by decide) ?_
            exact W.iret (v := r_12) hx hb hr (fun t ht hW => ⟨⟨r_12, (), rfl, hf, xHp ht hP⟩, hS.F ht⟩) hS.2.2 dX4_place_55 hlocks
      · have hf := hf.2 c_5
        refine lv_iconst (v := (-1)) hx hb dX4_place_21 (by decide) ?_
        exact W.iret (v := (-1)) hx hb hr (fun t ht hW => ⟨⟨((-1) : Int32), (), rfl, hf, xHp ht hP⟩, hS.F ht⟩) hS.2.2 dX4_place_22 hlocks

def p_X4_longest (pR : Int32) (pL : Nat → Int32) (qR : Int32) (qL : Nat → Int32) (x1 : Int32) (post : Int32 → Prop) : Prop := p_X4_isWhich x1 (fun r_1 => ((r_1 = 0 → post (-1)) ∧ (¬ r_1 = 0 → (((0 : Int32) = 0 → ((x1 = 0 → p_X2_lengthOf pL 0 (fun r_6 => post r_6)) ∧ (¬ x1 = 0 → p_X2_rowCount pR (fun r_5 => post r_5)))) ∧ (¬ (0 : Int32) = 0 → ((x1 = 0 → p_X2_lengthOf qL 0 (fun r_9 => post r_9)) ∧ (¬ x1 = 0 → p_X2_rowCount qR (fun r_8 => post r_8))))))))
theorem in_X4_longest_X4 : ∀ w ∈ u_ws RX4 TX4 6, w ∈ wsX4_longest := by decide +kernel
theorem lk_X4_longest_26 : Cond.fieldLink RX4 26 "GrowingCorners" "word" "LGrowingCorners$Word;" ∈ wsX4_longest := by decide +kernel
set_option maxHeartbeats 4000000 in
set_option maxRecDepth 100000 in
theorem c_X4_longest {l : Launch} {D : va_G} {k : Nat → ClassId} (b : Nat → Nat) (ag : Nat → Nat) (as : Nat → Nat) (ap : Nat → Nat) (aq : Nat → Nat) (aa : Nat → Nat) (ab : Nat → Nat) (M : Int32) (N : Int32) (C : Nat → Nat → Int32) (Gr : Nat → Nat → Int32) (Pr : Nat → Nat → Int64) (Pa : Nat → Nat → Int32) (I : Nat → Nat → Int64) (Ln : Nat → Int32) (Sz : Nat → Int32) (dr : Nat → Int32) (pR : Int32) (pP : Int32) (pL : Nat → Int32) (pN : Nat → Nat → Int32) (qR : Int32) (qP : Int32) (qL : Nat → Int32) (qN : Nat → Nat → Int32) (aR : Int32) (aP : Int32) (aL : Nat → Int32) (aN : Nat → Nat → Int32) (bR : Int32) (bP : Int32) (bL : Nat → Int32) (bN : Nat → Nat → Int32) (x1 : Int32) {post : Int32 → Prop} (hf : p_X4_longest pR pL qR qL x1 post) : ctI l yX4_longest wsX4_longest ({ frames := 2, cells := 0, slots := 0, locals := 42 }) D k [.ref (b 0), .int x1] (wX k b ag as ap aq aa ab M N C Gr Pr Pa I Ln Sz dr pR pP pL pN qR qP qL qN aR aP aL aN bR bP bL bN) (fun u : Unit => wX k b ag as ap aq aa ab M N C Gr Pr Pa I Ln Sz dr pR pP pL pN qR qP qL qN aR aP aL aN bR bP bL bN) (fun (r : Int32) (u : Unit) => post r) := by
  refine Met.ofW (cc := cX4_longest) (maxL := 3) (ret := (some .int)) (by decide) rfl ?_
  intro p e s m args below meth c s₁ B hml hv
  obtain ⟨rfl, hP, hG, hD0⟩ := hv
  have C0 : xM p s m ([.ref (b 0), .int x1] : List Value).toArray meth c cX4_longest 3 RX4 (some .int) wsX4_longest := ⟨B.exec, B.bytes, B.returns, atoms_spec (ws := wsX4_longest) B.pre, findClass_of_methodNamed B.named, B.notSynchronized, hml⟩
  obtain ⟨hx, hb, hr, hts, hown, hlocks, hml⟩ := id C0
  have hD := xSelf hD0
  have hS : va_S (xIn (wX k b ag as ap aq aa ab M N C Gr Pr Pa I Ln Sz dr pR pP pL pN qR qP qL qN aR aP aL aN bR bP bL bN)) s.heap s.heap [] := va_S.rf
  generalize xIn (wX k b ag as ap aq aa ab M N C Gr Pr Pa I Ln Sz dr pR pP pL pN qR qP qL qN aR aP aL aN bR bP bL bN) = A at hD hS ⊢
  have hl := lv_entry ([.ref (b 0), .int x1]) (n := 3) (Nat.le_of_ble_eq_true rfl)
  rw [lg_entry_eq]
  generalize (lg_sl ([.ref (b 0), .int x1]) ++ List.replicate (3 - (lg_sl ([.ref (b 0), .int x1])).length) Slot.unset).toArray = ls at hl ⊢
  have hl : lv_has ls 3 [(0, .ref (b 0)), (1, .int x1)] := hl
  unfold p_X4_longest at hf
  refine lv_iload_n hx hb dX4_longest_0 rfl (lv_at hl 1 rfl) ?_
  have hp : xPerm (wX k b ag as ap aq aa ab M N C Gr Pr Pa I Ln Sz dr pR pP pL pN qR qP qL qN aR aP aL aN bR bP bL bN) (([]) ++ (wX k b ag as ap aq aa ab M N C Gr Pr Pa I Ln Sz dr pR pP pL pN qR qP qL qN aR aP aL aN bR bP bL bN)) := (List.Perm.refl _)
  refine xCallI (w := []) (r := wX k b ag as ap aq aa ab M N C Gr Pr Pa I Ln Sz dr pR pP pL pN qR qP qL qN aR aP aL aN bR bP bL bN) (va_runS (As := [.int x1]) (rest := []) ⟨hx, hb, hml, hown, hts⟩ (c_X4_isWhich x1 hf) (va_cwS 1 hts gX4_longest_X4_isWhich rfl rfl rfl (by decide +kernel) ⟨Nat.le_of_ble_eq_true rfl, Nat.le_of_ble_eq_true rfl⟩) (xPreS hG hP hD hp) rfl rfl hl.1 rfl (lv_room (Nat.le_of_ble_eq_true rfl)) dX4_longest_1 ⟨Nat.zero_le _, Nat.zero_le _⟩) hP hD hS hp (fun _ => rfl) (fun r_1 _ H locs hf hP hD hS => ?_)
  have hP : va_P D vwCl (wX k b ag as ap aq aa ab M N C Gr Pr Pa I Ln Sz dr pR pP pL pN qR qP qL qN aR aP aL aN bR bP bL bN) H := hP
  have hD : va_D A (wX k b ag as ap aq aa ab M N C Gr Pr Pa I Ln Sz dr pR pP pL pN qR qP qL qN aR aP aL aN bR bP bL bN) := hD
  refine lv_if_ne (tgt := 9) hx hb dX4_longest_4 (by decide) (fun c_2 => ?_) (fun c_2 => ?_)
  · have hf := hf.2 c_2
    refine lv_aload_n hx hb dX4_longest_9 rfl (lv_at hl 0 rfl) ?_
    refine va_get (D := D) (ci := 4) (C := RX4) (T := TX4) (N := 6) hx hb hts in_X4_longest_X4 hown hG.1 hP 0 rfl rfl 2 (by decide) (hts _ lk_X4_longest_26) (fun _ h9 => h9) rfl dX4_longest_10 ?_
    refine lv_iconst (v := 0) hx hb dX4_longest_13 (by decide) ?_
    have hp : xPerm (wX k b ag as ap aq aa ab M N C Gr Pr Pa I Ln Sz dr pR pP pL pN qR qP qL qN aR aP aL aN bR bP bL bN) ((wW k (b 2) ap aq pR pP pL pN qR qP qL qN) ++ ([((b 0, .inr (4, [.ref (ag 0), .ref (b 1), .ref (b 2), .ref (aa 0), .ref (ab 0), .ref (b 3)])) : Nat × va_E)] ++ ([((b 1, .inl (k 5, 4, rfs (fun i => as (2 * i)))) : Nat × va_E)] ++ ([((b 3, .inl (k 0, 40, .inl dr)) : Nat × va_E)] ++ (wG k ag M N C Gr Pr Pa ++ (wSS k as I Ln Sz ++ (wT k aa aR aP aL aN ++ wT k ab bR bP bL bN))))))) := (xPermC fun _ x => by simp only [wX, wW, List.count_append]; omega)
    by_cases c_3 : (0 : Int32) = 0
    · have hf := hf.1 c_3
      refine xCallR (w := wW k (b 2) ap aq pR pP pL pN qR qP qL qN) (r := [((b 0, .inr (4, [.ref (ag 0), .ref (b 1), .ref (b 2), .ref (aa 0), .ref (ab 0), .ref (b 3)])) : Nat × va_E)] ++ ([((b 1, .inl (k 5, 4, rfs (fun i => as (2 * i)))) : Nat × va_E)] ++ ([((b 3, .inl (k 0, 40, .inl dr)) : Nat × va_E)] ++ (wG k ag M N C Gr Pr Pa ++ (wSS k as I Ln Sz ++ (wT k aa aR aP aL aN ++ wT k ab bR bP bL bN)))))) (va_runV (As := [.int 0]) (rest := []) ⟨hx, hb, hml, hown, hts⟩ (c_X3_tableau_p (b 2) ap aq pR pP pL pN qR qP qL qN 0 c_3) (cwV 1 hts gX4_longest_X3_tableau rfl rfl rfl (by decide +kernel) ⟨Nat.le_of_ble_eq_true rfl, Nat.le_of_ble_eq_true rfl⟩) (xPreV hG hP hD hp (ci := 3) rfl (i := 0) rfl) rfl rfl hl.1 rfl (lv_room (Nat.le_of_ble_eq_true rfl)) dX4_longest_14 ⟨Nat.zero_le _, Nat.zero_le _⟩) hP hD hS hp (fun r0 H locs h0 hP hD hS => ?_)
      subst h0
      have hP : va_P D vwCl (wX k b ag as ap aq aa ab M N C Gr Pr Pa I Ln Sz dr pR pP pL pN qR qP qL qN aR aP aL aN bR bP bL bN) H := xP_perm (xPermC fun _ x => by simp only [wX, wW, List.count_append]; omega) hP
      have hD : va_D A (wX k b ag as ap aq aa ab M N C Gr Pr Pa I Ln Sz dr pR pP pL pN qR qP qL qN aR aP aL aN bR bP bL bN) := xD_perm (xPermC fun _ x => by simp only [wX, wW, List.count_append]; omega) hD
      refine lv_astore_n (lv' := [(2, .ref (ap 0)), (0, .ref (b 0)), (1, .int x1)]) hx hb dX4_longest_17 rfl hl (by decide) rfl (fun ls hl => ?_)
      refine lv_iload_n hx hb dX4_longest_18 rfl (lv_at hl 2 rfl) ?_
      refine lv_if_ne (tgt := 30) hx hb dX4_longest_19 (by decide) (fun c_4 => ?_) (fun c_4 => ?_)
      · have hf := hf.2 c_4
        refine lv_aload_n hx hb dX4_longest_30 rfl (lv_at hl 0 rfl) ?_
        have hp : xPerm (wX k b ag as ap aq aa ab M N C Gr Pr Pa I Ln Sz dr pR pP pL pN qR qP qL qN aR aP aL aN bR bP bL bN) ((wT k ap pR pP pL pN) ++ ([((b 0, .inr (4, [.ref (ag 0), .ref (b 1), .ref (b 2), .ref (aa 0), .ref (ab 0), .ref (b 3)])) : Nat × va_E)] ++ ([((b 1, .inl (k 5, 4, rfs (fun i => as (2 * i)))) : Nat × va_E)] ++ ([((b 2, .inr (3, [.ref (ap 0), .ref (aq 0)])) : Nat × va_E)] ++ ([((b 3, .inl (k 0, 40, .inl dr)) : Nat × va_E)] ++ (wG k ag M N C Gr Pr Pa ++ (wSS k as I Ln Sz ++ (wT k aq qR qP qL qN ++ (wT k aa aR aP aL aN ++ wT k ab bR bP bL bN))))))))) := (xPermC fun _ x => by simp only [wX, wW, List.count_append]; omega)
        refine xCallI (w := wT k ap pR pP pL pN) (r := [((b 0, .inr (4, [.ref (ag 0), .ref (b 1), .ref (b 2), .ref (aa 0), .ref (ab 0), .ref (b 3)])) : Nat × va_E)] ++ ([((b 1, .inl (k 5, 4, rfs (fun i => as (2 * i)))) : Nat × va_E)] ++ ([((b 2, .inr (3, [.ref (ap 0), .ref (aq 0)])) : Nat × va_E)] ++ ([((b 3, .inl (k 0, 40, .inl dr)) : Nat × va_E)] ++ (wG k ag M N C Gr Pr Pa ++ (wSS k as I Ln Sz ++ (wT k aq qR qP qL qN ++ (wT k aa aR aP aL aN ++ wT k ab bR bP bL bN)))))))) (va_runV (As := []) (rest := []) ⟨hx, hb, hml, hown, hts⟩ (c_X2_rowCount ap pR pP pL pN hf) (cwV 0 hts gX4_longest_X2_rowCount rfl rfl rfl (by decide +kernel) ⟨Nat.le_of_ble_eq_true rfl, Nat.le_of_ble_eq_true rfl⟩) (xPreV hG hP hD hp (ci := 2) rfl (i := 0) rfl) rfl rfl hl.1 rfl (lv_room (Nat.le_of_ble_eq_true rfl)) dX4_longest_31 ⟨Nat.zero_le _, Nat.zero_le _⟩) hP hD hS hp (fun _ => wT_adr) (fun r_5 _ H locs hf hP hD hS => ?_)
        have hP : va_P D vwCl (wX k b ag as ap aq aa ab M N C Gr Pr Pa I Ln Sz dr pR pP pL pN qR qP qL qN aR aP aL aN bR bP bL bN) H := xP_perm (xPermC fun _ x => by simp only [wX, wW, List.count_append]; omega) hP
        have hD : va_D A (wX k b ag as ap aq aa ab M N C Gr Pr Pa I Ln Sz dr pR pP pL pN qR qP qL qN aR aP aL aN bR bP bL bN) := xD_perm (xPermC fun _ x => by simp only [wX, wW, List.count_append]; omega) hD
        exact W.iret (v := r_5) hx hb hr (fun t ht hW => ⟨⟨r_5, (), rfl, hf, xHp ht hP⟩, hS.F ht⟩) hS.2.2 dX4_longest_34 hlocks
      · have hf := hf.1 c_4
        refine lv_aload_n hx hb dX4_longest_22 rfl (lv_at hl 0 rfl) ?_
        refine lv_iconst (v := 0) hx hb dX4_longest_23 (by decide) ?_
        have hp : xPerm (wX k b ag as ap aq aa ab M N C Gr Pr Pa I Ln Sz dr pR pP pL pN qR qP qL qN aR aP aL aN bR bP bL bN) ((wT k ap pR pP pL pN) ++ ([((b 0, .inr (4, [.ref (ag 0), .ref (b 1), .ref (b 2), .ref (aa 0), .ref (ab 0), .ref (b 3)])) : Nat × va_E)] ++ ([((b 1, .inl (k 5, 4, rfs (fun i => as (2 * i)))) : Nat × va_E)] ++ ([((b 2, .inr (3, [.ref (ap 0), .ref (aq 0)])) : Nat × va_E)] ++ ([((b 3, .inl (k 0, 40, .inl dr)) : Nat × va_E)] ++ (wG k ag M N C Gr Pr Pa ++ (wSS k as I Ln Sz ++ (wT k aq qR qP qL qN ++ (wT k aa aR aP aL aN ++ wT k ab bR bP bL bN))))))))) := (xPermC fun _ x => by simp only [wX, wW, List.count_append]; omega)
        refine xCallI (w := wT k ap pR pP pL pN) (r := [((b 0, .inr (4, [.ref (ag 0), .ref (b 1), .ref (b 2), .ref (aa 0), .ref (ab 0), .ref (b 3)])) : Nat × va_E)] ++ ([((b 1, .inl (k 5, 4, rfs (fun i => as (2 * i)))) : Nat × va_E)] ++ ([((b 2, .inr (3, [.ref (ap 0), .ref (aq 0)])) : Nat × va_E)] ++ ([((b 3, .inl (k 0, 40, .inl dr)) : Nat × va_E)] ++ (wG k ag M N C Gr Pr Pa ++ (wSS k as I Ln Sz ++ (wT k aq qR qP qL qN ++ (wT k aa aR aP aL aN ++ wT k ab bR bP bL bN)))))))) (va_runV (As := [.int 0]) (rest := []) ⟨hx, hb, hml, hown, hts⟩ (c_X2_lengthOf ap pR pP pL pN 0 hf) (cwV 1 hts gX4_longest_X2_lengthOf rfl rfl rfl (by decide +kernel) ⟨Nat.le_of_ble_eq_true rfl, Nat.le_of_ble_eq_true rfl⟩) (xPreV hG hP hD hp (ci := 2) rfl (i := 0) rfl) rfl rfl hl.1 rfl (lv_room (Nat.le_of_ble_eq_true rfl)) dX4_longest_24 ⟨Nat.zero_le _, Nat.zero_le _⟩) hP hD hS hp (fun _ => wT_adr) (fun r_6 _ H locs hf hP hD hS => ?_)
        have hP : va_P D vwCl (wX k b ag as ap aq aa ab M N C Gr Pr Pa I Ln Sz dr pR pP pL pN qR qP qL qN aR aP aL aN bR bP bL bN) H := xP_perm (xPermC fun _ x => by simp only [wX, wW, List.count_append]; omega) hP
        have hD : va_D A (wX k b ag as ap aq aa ab M N C Gr Pr Pa I Ln Sz dr pR pP pL pN qR qP qL qN aR aP aL aN bR bP bL bN) := xD_perm (xPermC fun _ x => by simp only [wX, wW, List.count_append]; omega) hD
        refine lv_goto (tgt := 34) hx hb dX4_longest_27 (by decide) ?_
        exact W.iret (v := r_6) hx hb hr (fun t ht hW => ⟨⟨r_6, (), rfl, hf, xHp ht hP⟩, hS.F ht⟩) hS.2.2 dX4_longest_34 hlocks
    · have hf := hf.2 c_3
      refine xCallR (w := wW k (b 2) ap aq pR pP pL pN qR qP qL qN) (r := [((b 0, .inr (4, [.ref (ag 0), .ref (b 1), .ref (b 2), .ref (aa 0), .ref (ab 0), .ref (b 3)])) : Nat × va_E)] ++ ([((b 1, .inl (k 5, 4, rfs (fun i => as (2 * i)))) : Nat × va_E)] ++ ([((b 3, .inl (k 0, 40, .inl dr)) : Nat × va_E)] ++ (wG k ag M N C Gr Pr Pa ++ (wSS k as I Ln Sz ++ (wT k aa aR aP aL aN ++ wT k ab bR bP bL bN)))))) (va_runV (As := [.int 0]) (rest := []) ⟨hx, hb, hml, hown, hts⟩ (c_X3_tableau_q (b 2) ap aq pR pP pL pN qR qP qL qN 0 c_3) (cwV 1 hts gX4_longest_X3_tableau rfl rfl rfl (by decide +kernel) ⟨Nat.le_of_ble_eq_true rfl, Nat.le_of_ble_eq_true rfl⟩) (xPreV hG hP hD hp (ci := 3) rfl (i := 0) rfl) rfl rfl hl.1 rfl (lv_room (Nat.le_of_ble_eq_true rfl)) dX4_longest_14 ⟨Nat.zero_le _, Nat.zero_le _⟩) hP hD hS hp (fun r0 H locs h0 hP hD hS => ?_)
      subst h0
      have hP : va_P D vwCl (wX k b ag as ap aq aa ab M N C Gr Pr Pa I Ln Sz dr pR pP pL pN qR qP qL qN aR aP aL aN bR bP bL bN) H := xP_perm (xPermC fun _ x => by simp only [wX, wW, List.count_append]; omega) hP
      have hD : va_D A (wX k b ag as ap aq aa ab M N C Gr Pr Pa I Ln Sz dr pR pP pL pN qR qP qL qN aR aP aL aN bR bP bL bN) := xD_perm (xPermC fun _ x => by simp only [wX, wW, List.count_append]; omega) hD
      refine lv_astore_n (lv' := [(2, .ref (aq 0)), (0, .ref (b 0)), (1, .int x1)]) hx hb dX4_longest_17 rfl hl (by decide) rfl (fun ls hl => ?_)
      refine lv_iload_n hx hb dX4_longest_18 rfl (lv_at hl 2 rfl) ?_
      refine lv_if_ne (tgt := 30) hx hb dX4_longest_19 (by decide) (fun c_7 => ?_) (fun c_7 => ?_)
      · have hf := hf.2 c_7
        refine lv_aload_n hx hb dX4_longest_30 rfl (lv_at hl 0 rfl) ?_
        have hp : xPerm (wX k b ag as ap aq aa ab M N C Gr Pr Pa I Ln Sz dr pR pP pL pN qR qP qL qN aR aP aL aN bR bP bL bN) ((wT k aq qR qP qL qN) ++ ([((b 0, .inr (4, [.ref (ag 0), .ref (b 1), .ref (b 2), .ref (aa 0), .ref (ab 0), .ref (b 3)])) : Nat × va_E)] ++ ([((b 1, .inl (k 5, 4, rfs (fun i => as (2 * i)))) : Nat × va_E)] ++ ([((b 2, .inr (3, [.ref (ap 0), .ref (aq 0)])) : Nat × va_E)] ++ ([((b 3, .inl (k 0, 40, .inl dr)) : Nat × va_E)] ++ (wG k ag M N C Gr Pr Pa ++ (wSS k as I Ln Sz ++ (wT k ap pR pP pL pN ++ (wT k aa aR aP aL aN ++ wT k ab bR bP bL bN))))))))) := (xPermC fun _ x => by simp only [wX, wW, List.count_append]; omega)
        refine xCallI (w := wT k aq qR qP qL qN) (r := [((b 0, .inr (4, [.ref (ag 0), .ref (b 1), .ref (b 2), .ref (aa 0), .ref (ab 0), .ref (b 3)])) : Nat × va_E)] ++ ([((b 1, .inl (k 5, 4, rfs (fun i => as (2 * i)))) : Nat × va_E)] ++ ([((b 2, .inr (3, [.ref (ap 0), .ref (aq 0)])) : Nat × va_E)] ++ ([((b 3, .inl (k 0, 40, .inl dr)) : Nat × va_E)] ++ (wG k ag M N C Gr Pr Pa ++ (wSS k as I Ln Sz ++ (wT k ap pR pP pL pN ++ (wT k aa aR aP aL aN ++ wT k ab bR bP bL bN)))))))) (va_runV (As := []) (rest := []) ⟨hx, hb, hml, hown, hts⟩ (c_X2_rowCount aq qR qP qL qN hf) (cwV 0 hts gX4_longest_X2_rowCount rfl rfl rfl (by decide +kernel) ⟨Nat.le_of_ble_eq_true rfl, Nat.le_of_ble_eq_true rfl⟩) (xPreV hG hP hD hp (ci := 2) rfl (i := 0) rfl) rfl rfl hl.1 rfl (lv_room (Nat.le_of_ble_eq_true rfl)) dX4_longest_31 ⟨Nat.zero_le _, Nat.zero_le _⟩) hP hD hS hp (fun _ => wT_adr) (fun r_8 _ H locs hf hP hD hS => ?_)
        have hP : va_P D vwCl (wX k b ag as ap aq aa ab M N C Gr Pr Pa I Ln Sz dr pR pP pL pN qR qP qL qN aR aP aL aN bR bP bL bN) H := xP_perm (xPermC fun _ x => by simp only [wX, wW, List.count_append]; omega) hP
        have hD : va_D A (wX k b ag as ap aq aa ab M N C Gr Pr Pa I Ln Sz dr pR pP pL pN qR qP qL qN aR aP aL aN bR bP bL bN) := xD_perm (xPermC fun _ x => by simp only [wX, wW, List.count_append]; omega) hD
        exact W.iret (v := r_8) hx hb hr (fun t ht hW => ⟨⟨r_8, (), rfl, hf, xHp ht hP⟩, hS.F ht⟩) hS.2.2 dX4_longest_34 hlocks
      · have hf := hf.1 c_7
        refine lv_aload_n hx hb dX4_longest_22 rfl (lv_at hl 0 rfl) ?_
        refine lv_iconst (v := 0) hx hb dX4_longest_23 (by decide) ?_
        have hp : xPerm (wX k b ag as ap aq aa ab M N C Gr Pr Pa I Ln Sz dr pR pP pL pN qR qP qL qN aR aP aL aN bR bP bL bN) ((wT k aq qR qP qL qN) ++ ([((b 0, .inr (4, [.ref (ag 0), .ref (b 1), .ref (b 2), .ref (aa 0), .ref (ab 0), .ref (b 3)])) : Nat × va_E)] ++ ([((b 1, .inl (k 5, 4, rfs (fun i => as (2 * i)))) : Nat × va_E)] ++ ([((b 2, .inr (3, [.ref (ap 0), .ref (aq 0)])) : Nat × va_E)] ++ ([((b 3, .inl (k 0, 40, .inl dr)) : Nat × va_E)] ++ (wG k ag M N C Gr Pr Pa ++ (wSS k as I Ln Sz ++ (wT k ap pR pP pL pN ++ (wT k aa aR aP aL aN ++ wT k ab bR bP bL bN))))))))) := (xPermC fun _ x => by simp only [wX, wW, List.count_append]; omega)
        refine xCallI (w := wT k aq qR qP qL qN) (r := [((b 0, .inr (4, [.ref (ag 0), .ref (b 1), .ref (b 2), .ref (aa 0), .ref (ab 0), .ref (b 3)])) : Nat × va_E)] ++ ([((b 1, .inl (k 5, 4, rfs (fun i => as (2 * i)))) : Nat × va_E)] ++ ([((b 2, .inr (3, [.ref (ap 0), .ref (aq 0)])) : Nat × va_E)] ++ ([((b 3, .inl (k 0, 40, .inl dr)) : Nat × va_E)] ++ (wG k ag M N C Gr Pr Pa ++ (wSS k as I Ln Sz ++ (wT k ap pR pP pL pN ++ (wT k aa aR aP aL aN ++ wT k ab bR bP bL bN)))))))) (va_runV (As := [.int 0]) (rest := []) ⟨hx, hb, hml, hown, hts⟩ (c_X2_lengthOf aq qR qP qL qN 0 hf) (cwV 1 hts gX4_longest_X2_lengthOf rfl rfl rfl (by decide +kernel) ⟨Nat.le_of_ble_eq_true rfl, Nat.le_of_ble_eq_true rfl⟩) (xPreV hG hP hD hp (ci := 2) rfl (i := 0) rfl) rfl rfl hl.1 rfl (lv_room (Nat.le_of_ble_eq_true rfl)) dX4_longest_24 ⟨Nat.zero_le _, Nat.zero_le _⟩) hP hD hS hp (fun _ => wT_adr) (fun r_9 _ H locs hf hP hD hS => ?_)
        have hP : va_P D vwCl (wX k b ag as ap aq aa ab M N C Gr Pr Pa I Ln Sz dr pR pP pL pN qR qP qL qN aR aP aL aN bR bP bL bN) H := xP_perm (xPermC fun _ x => by simp only [wX, wW, List.count_append]; omega) hP
        have hD : va_D A (wX k b ag as ap aq aa ab M N C Gr Pr Pa I Ln Sz dr pR pP pL pN qR qP qL qN aR aP aL aN bR bP bL bN) := xD_perm (xPermC fun _ x => by simp only [wX, wW, List.count_append]; omega) hD
        refine lv_goto (tgt := 34) hx hb dX4_longest_27 (by decide) ?_
        exact W.iret (v := r_9) hx hb hr (fun t ht hW => ⟨⟨r_9, (), rfl, hf, xHp ht hP⟩, hS.F ht⟩) hS.2.2 dX4_longest_34 hlocks
  · have hf := hf.1 c_2
    refine lv_iconst (v := (-1)) hx hb dX4_longest_7 (by decide) ?_
    exact W.iret (v := (-1)) hx hb hr (fun t ht hW => ⟨⟨((-1) : Int32), (), rfl, hf, xHp ht hP⟩, hS.F ht⟩) hS.2.2 dX4_longest_8 hlocks

def p_X4_lay (aR : Int32) (aP : Int32) (aL : Nat → Int32) (aN : Nat → Nat → Int32) (bR : Int32) (bP : Int32) (bL : Nat → Int32) (bN : Nat → Nat → Int32) (x1 : Int32) (x2 : Int32) (x3 : Int32) (post : Int32 → Int32 → Int32 → (Nat → Int32) → (Nat → Nat → Int32) → Int32 → Int32 → (Nat → Int32) → (Nat → Nat → Int32) → Prop) : Prop := p_X4_isWhich x1 (fun r_1 => ((r_1 = 0 → post (-1) aR aP aL aN bR bP bL bN) ∧ (¬ r_1 = 0 → p_X4_isWithin x3 1 40 (fun r_3 => ((r_3 = 0 → post (-1) aR aP aL aN bR bP bL bN) ∧ (¬ r_3 = 0 → ((x1 = 0 → p_X2_rowCount aR (fun r_16 => p_X4_isWithin x2 0 (if 8 < r_16 then 8 else r_16) (fun r_17 => ((r_17 = 0 → post (-1) aR aP aL aN bR bP bL bN) ∧ (¬ r_17 = 0 → p_X2_placeCount aP (fun r_19 => ((r_19 < 40 → p_X2_append aR aP aL aN x2 x3 (fun R_21 P_22 L_23 N_24 => p_X2_lengthOf L_23 x2 (fun r_25 => post r_25 R_21 P_22 L_23 N_24 bR bP bL bN))) ∧ (¬ r_19 < 40 → post (-3) aR aP aL aN bR bP bL bN)))))))) ∧ (¬ x1 = 0 → p_X2_rowCount bR (fun r_6 => p_X4_isWithin x2 0 (if 8 < r_6 then 8 else r_6) (fun r_7 => ((r_7 = 0 → post (-1) aR aP aL aN bR bP bL bN) ∧ (¬ r_7 = 0 → p_X2_placeCount bP (fun r_9 => ((r_9 < 40 → p_X2_append bR bP bL bN x2 x3 (fun R_11 P_12 L_13 N_14 => p_X2_lengthOf L_13 x2 (fun r_15 => post r_15 aR aP aL aN R_11 P_12 L_13 N_14))) ∧ (¬ r_9 < 40 → post (-3) aR aP aL aN bR bP bL bN)))))))))))))))
theorem in_X4_lay_X4 : ∀ w ∈ u_ws RX4 TX4 6, w ∈ wsX4_lay := by decide +kernel
theorem lk_X4_lay_33 : Cond.fieldLink RX4 33 "GrowingCorners" "laidP" "LGrowingCorners$Tableau;" ∈ wsX4_lay := by decide +kernel
theorem lk_X4_lay_37 : Cond.fieldLink RX4 37 "GrowingCorners" "laidQ" "LGrowingCorners$Tableau;" ∈ wsX4_lay := by decide +kernel
theorem mb_X4_lay_mc_min : Cond.code Lib.Math.min.name Lib.Math.min.code 2 (some .int) ∈ wsX4_lay := by decide +kernel
theorem mb_X4_lay_mi : Cond.initialized "java/lang/Math" ∈ wsX4_lay := by decide +kernel
theorem mb_X4_lay_ml166 : Cond.methodLink RX4 166 Lib.Math.min.name ∈ wsX4_lay := by decide +kernel
theorem mb_X4_lay_ms_min : Cond.static Lib.Math.min.name ∈ wsX4_lay := by decide +kernel
set_option maxHeartbeats 4000000 in
set_option maxRecDepth 100000 in
theorem c_X4_lay {l : Launch} {D : va_G} {k : Nat → ClassId} (b : Nat → Nat) (ag : Nat → Nat) (as : Nat → Nat) (ap : Nat → Nat) (aq : Nat → Nat) (aa : Nat → Nat) (ab : Nat → Nat) (M : Int32) (N : Int32) (C : Nat → Nat → Int32) (Gr : Nat → Nat → Int32) (Pr : Nat → Nat → Int64) (Pa : Nat → Nat → Int32) (I : Nat → Nat → Int64) (Ln : Nat → Int32) (Sz : Nat → Int32) (dr : Nat → Int32) (pR : Int32) (pP : Int32) (pL : Nat → Int32) (pN : Nat → Nat → Int32) (qR : Int32) (qP : Int32) (qL : Nat → Int32) (qN : Nat → Nat → Int32) (aR : Int32) (aP : Int32) (aL : Nat → Int32) (aN : Nat → Nat → Int32) (bR : Int32) (bP : Int32) (bL : Nat → Int32) (bN : Nat → Nat → Int32) (x1 : Int32) (x2 : Int32) (x3 : Int32) {post : Int32 → Int32 → Int32 → (Nat → Int32) → (Nat → Nat → Int32) → Int32 → Int32 → (Nat → Int32) → (Nat → Nat → Int32) → Prop} (hf : p_X4_lay aR aP aL aN bR bP bL bN x1 x2 x3 post) : ctI l yX4_lay wsX4_lay ({ frames := 2, cells := 0, slots := 0, locals := 46 }) D k [.ref (b 0), .int x1, .int x2, .int x3] (wX k b ag as ap aq aa ab M N C Gr Pr Pa I Ln Sz dr pR pP pL pN qR qP qL qN aR aP aL aN bR bP bL bN) (fun u : Int32 × Int32 × (Nat → Int32) × (Nat → Nat → Int32) × Int32 × Int32 × (Nat → Int32) × (Nat → Nat → Int32) => wX k b ag as ap aq aa ab M N C Gr Pr Pa I Ln Sz dr pR pP pL pN qR qP qL qN (u.1) (u.2.1) (u.2.2.1) (u.2.2.2.1) (u.2.2.2.2.1) (u.2.2.2.2.2.1) (u.2.2.2.2.2.2.1) (u.2.2.2.2.2.2.2)) (fun (r : Int32) (u : Int32 × Int32 × (Nat → Int32) × (Nat → Nat → Int32) × Int32 × Int32 × (Nat → Int32) × (Nat → Nat → Int32)) => post r u.1 u.2.1 u.2.2.1 u.2.2.2.1 u.2.2.2.2.1 u.2.2.2.2.2.1 u.2.2.2.2.2.2.1 u.2.2.2.2.2.2.2) := by
  refine Met.ofW (cc := cX4_lay) (maxL := 5) (ret := (some .int)) (by decide) rfl ?_
  intro p e s m args below meth c s₁ B hml hv
  obtain ⟨rfl, hP, hG, hD0⟩ := hv
  have C0 : xM p s m ([.ref (b 0), .int x1, .int x2, .int x3] : List Value).toArray meth c cX4_lay 5 RX4 (some .int) wsX4_lay := ⟨B.exec, B.bytes, B.returns, atoms_spec (ws := wsX4_lay) B.pre, findClass_of_methodNamed B.named, B.notSynchronized, hml⟩
  obtain ⟨hx, hb, hr, hts, hown, hlocks, hml⟩ := id C0
  have hD := xSelf hD0
  have hS : va_S (xIn (wX k b ag as ap aq aa ab M N C Gr Pr Pa I Ln Sz dr pR pP pL pN qR qP qL qN aR aP aL aN bR bP bL bN)) s.heap s.heap [] := va_S.rf
  generalize xIn (wX k b ag as ap aq aa ab M N C Gr Pr Pa I Ln Sz dr pR pP pL pN qR qP qL qN aR aP aL aN bR bP bL bN) = A at hD hS ⊢
  have hl := lv_entry ([.ref (b 0), .int x1, .int x2, .int x3]) (n := 5) (Nat.le_of_ble_eq_true rfl)
  rw [lg_entry_eq]
  generalize (lg_sl ([.ref (b 0), .int x1, .int x2, .int x3]) ++ List.replicate (5 - (lg_sl ([.ref (b 0), .int x1, .int x2, .int x3])).length) Slot.unset).toArray = ls at hl ⊢
  have hl : lv_has ls 5 [(0, .ref (b 0)), (1, .int x1), (2, .int x2), (3, .int x3)] := hl
  unfold p_X4_lay at hf
  refine lv_iload_n hx hb dX4_lay_0 rfl (lv_at hl 1 rfl) ?_
  have hp : xPerm (wX k b ag as ap aq aa ab M N C Gr Pr Pa I Ln Sz dr pR pP pL pN qR qP qL qN aR aP aL aN bR bP bL bN) (([]) ++ (wX k b ag as ap aq aa ab M N C Gr Pr Pa I Ln Sz dr pR pP pL pN qR qP qL qN aR aP aL aN bR bP bL bN)) := (List.Perm.refl _)
  refine xCallI (w := []) (r := wX k b ag as ap aq aa ab M N C Gr Pr Pa I Ln Sz dr pR pP pL pN qR qP qL qN aR aP aL aN bR bP bL bN) (va_runS (As := [.int x1]) (rest := []) ⟨hx, hb, hml, hown, hts⟩ (c_X4_isWhich x1 hf) (va_cwS 1 hts gX4_lay_X4_isWhich rfl rfl rfl (by decide +kernel) ⟨Nat.le_of_ble_eq_true rfl, Nat.le_of_ble_eq_true rfl⟩) (xPreS hG hP hD hp) rfl rfl hl.1 rfl (lv_room (Nat.le_of_ble_eq_true rfl)) dX4_lay_1 ⟨Nat.zero_le _, Nat.zero_le _⟩) hP hD hS hp (fun _ => rfl) (fun r_1 _ H locs hf hP hD hS => ?_)
  have hP : va_P D vwCl (wX k b ag as ap aq aa ab M N C Gr Pr Pa I Ln Sz dr pR pP pL pN qR qP qL qN aR aP aL aN bR bP bL bN) H := hP
  have hD : va_D A (wX k b ag as ap aq aa ab M N C Gr Pr Pa I Ln Sz dr pR pP pL pN qR qP qL qN aR aP aL aN bR bP bL bN) := hD
  refine lv_if_eq (tgt := 17) hx hb dX4_lay_4 (by decide) (fun c_2 => ?_) (fun c_2 => ?_)
  · have hf := hf.1 c_2
    refine lv_iconst (v := (-1)) hx hb dX4_lay_17 (by decide) ?_
    exact W.iret (v := (-1)) hx hb hr (fun t ht hW => ⟨⟨((-1) : Int32), (aR, aP, aL, aN, bR, bP, bL, bN), rfl, hf, xHp ht hP⟩, hS.F ht⟩) hS.2.2 dX4_lay_18 hlocks
  · have hf := hf.2 c_2
    refine lv_iload_n hx hb dX4_lay_7 rfl (lv_at hl 3 rfl) ?_
    refine lv_iconst (v := 1) hx hb dX4_lay_8 (by decide) ?_
    refine lv_bipush (v := 40) hx hb dX4_lay_9 (by decide) ?_
    have hp : xPerm (wX k b ag as ap aq aa ab M N C Gr Pr Pa I Ln Sz dr pR pP pL pN qR qP qL qN aR aP aL aN bR bP bL bN) (([]) ++ (wX k b ag as ap aq aa ab M N C Gr Pr Pa I Ln Sz dr pR pP pL pN qR qP qL qN aR aP aL aN bR bP bL bN)) := (List.Perm.refl _)
    refine xCallI (w := []) (r := wX k b ag as ap aq aa ab M N C Gr Pr Pa I Ln Sz dr pR pP pL pN qR qP qL qN aR aP aL aN bR bP bL bN) (va_runS (As := [.int x3, .int 1, .int 40]) (rest := []) ⟨hx, hb, hml, hown, hts⟩ (c_X4_isWithin x3 1 40 hf) (va_cwS 3 hts gX4_lay_X4_isWithin rfl rfl rfl (by decide +kernel) ⟨Nat.le_of_ble_eq_true rfl, Nat.le_of_ble_eq_true rfl⟩) (xPreS hG hP hD hp) rfl rfl hl.1 rfl (lv_room (Nat.le_of_ble_eq_true rfl)) dX4_lay_11 ⟨Nat.zero_le _, Nat.zero_le _⟩) hP hD hS hp (fun _ => rfl) (fun r_3 _ H locs hf hP hD hS => ?_)
    have hP : va_P D vwCl (wX k b ag as ap aq aa ab M N C Gr Pr Pa I Ln Sz dr pR pP pL pN qR qP qL qN aR aP aL aN bR bP bL bN) H := hP
    have hD : va_D A (wX k b ag as ap aq aa ab M N C Gr Pr Pa I Ln Sz dr pR pP pL pN qR qP qL qN aR aP aL aN bR bP bL bN) := hD
    refine lv_if_ne (tgt := 19) hx hb dX4_lay_14 (by decide) (fun c_4 => ?_) (fun c_4 => ?_)
    · have hf := hf.2 c_4
      refine lv_iload_n hx hb dX4_lay_19 rfl (lv_at hl 1 rfl) ?_
      refine lv_if_ne (tgt := 30) hx hb dX4_lay_20 (by decide) (fun c_5 => ?_) (fun c_5 => ?_)
      · have hf := hf.2 c_5
        refine lv_aload_n hx hb dX4_lay_30 rfl (lv_at hl 0 rfl) ?_
        refine va_get (D := D) (ci := 4) (C := RX4) (T := TX4) (N := 6) hx hb hts in_X4_lay_X4 hown hG.1 hP 0 rfl rfl 4 (by decide) (hts _ lk_X4_lay_37) (fun _ h9 => h9) rfl dX4_lay_31 ?_
        refine lv_astore (lv' := [(4, .ref (ab 0)), (0, .ref (b 0)), (1, .int x1), (2, .int x2), (3, .int x3)]) hx hb dX4_lay_34 hl (by decide) rfl (fun ls hl => ?_)
        refine lv_iload_n hx hb dX4_lay_36 rfl (lv_at hl 3 rfl) ?_
        refine lv_iconst (v := 0) hx hb dX4_lay_37 (by decide) ?_
        refine lv_aload hx hb dX4_lay_38 (lv_at hl 0 rfl) ?_
        have hp : xPerm (wX k b ag as ap aq aa ab M N C Gr Pr Pa I Ln Sz dr pR pP pL pN qR qP qL qN aR aP aL aN bR bP bL bN) ((wT k ab bR bP bL bN) ++ ([((b 0, .inr (4, [.ref (ag 0), .ref (b 1), .ref (b 2), .ref (aa 0), .ref (ab 0), .ref (b 3)])) : Nat × va_E)] ++ ([((b 1, .inl (k 5, 4, rfs (fun i => as (2 * i)))) : Nat × va_E)] ++ ([((b 2, .inr (3, [.ref (ap 0), .ref (aq 0)])) : Nat × va_E)] ++ ([((b 3, .inl (k 0, 40, .inl dr)) : Nat × va_E)] ++ (wG k ag M N C Gr Pr Pa ++ (wSS k as I Ln Sz ++ (wT k ap pR pP pL pN ++ (wT k aq qR qP qL qN ++ wT k aa aR aP aL aN))))))))) := (xPermC fun _ x => by simp only [wX, wW, List.count_append]; omega)
        refine xCallI (w := wT k ab bR bP bL bN) (r := [((b 0, .inr (4, [.ref (ag 0), .ref (b 1), .ref (b 2), .ref (aa 0), .ref (ab 0), .ref (b 3)])) : Nat × va_E)] ++ ([((b 1, .inl (k 5, 4, rfs (fun i => as (2 * i)))) : Nat × va_E)] ++ ([((b 2, .inr (3, [.ref (ap 0), .ref (aq 0)])) : Nat × va_E)] ++ ([((b 3, .inl (k 0, 40, .inl dr)) : Nat × va_E)] ++ (wG k ag M N C Gr Pr Pa ++ (wSS k as I Ln Sz ++ (wT k ap pR pP pL pN ++ (wT k aq qR qP qL qN ++ wT k aa aR aP aL aN)))))))) (va_runV (As := []) (rest := [.int 0, .int x2]) ⟨hx, hb, hml, hown, hts⟩ (c_X2_rowCount ab bR bP bL bN hf) (cwV 0 hts gX4_lay_X2_rowCount rfl rfl rfl (by decide +kernel) ⟨Nat.le_of_ble_eq_true rfl, Nat.le_of_ble_eq_true rfl⟩) (xPreV hG hP hD hp (ci := 2) rfl (i := 0) rfl) rfl rfl hl.1 rfl (lv_room (Nat.le_of_ble_eq_true rfl)) dX4_lay_40 ⟨Nat.zero_le _, Nat.zero_le _⟩) hP hD hS hp (fun _ => wT_adr) (fun r_6 _ H locs hf hP hD hS => ?_)
        have hP : va_P D vwCl (wX k b ag as ap aq aa ab M N C Gr Pr Pa I Ln Sz dr pR pP pL pN qR qP qL qN aR aP aL aN bR bP bL bN) H := xP_perm (xPermC fun _ x => by simp only [wX, wW, List.count_append]; omega) hP
        have hD : va_D A (wX k b ag as ap aq aa ab M N C Gr Pr Pa I Ln Sz dr pR pP pL pN qR qP qL qN aR aP aL aN bR bP bL bN) := xD_perm (xPermC fun _ x => by simp only [wX, wW, List.count_append]; omega) hD
        refine lv_bipush (v := 8) hx hb dX4_lay_43 (by decide) ?_
        refine va_mmin hx hb (hml.trans hl.1.symm) hown (hts _ mb_X4_lay_ml166) (hts _ mb_X4_lay_ms_min) (hts _ mb_X4_lay_mi) (hts _ mb_X4_lay_mc_min) (Nat.le_of_ble_eq_true rfl) (Nat.le_of_ble_eq_true rfl) (Nat.zero_le _) (Nat.zero_le _) dX4_lay_45 ?_
        have hp : xPerm (wX k b ag as ap aq aa ab M N C Gr Pr Pa I Ln Sz dr pR pP pL pN qR qP qL qN aR aP aL aN bR bP bL bN) (([]) ++ (wX k b ag as ap aq aa ab M N C Gr Pr Pa I Ln Sz dr pR pP pL pN qR qP qL qN aR aP aL aN bR bP bL bN)) := (List.Perm.refl _)
        refine xCallI (w := []) (r := wX k b ag as ap aq aa ab M N C Gr Pr Pa I Ln Sz dr pR pP pL pN qR qP qL qN aR aP aL aN bR bP bL bN) (va_runS (As := [.int x2, .int 0, .int (if 8 < r_6 then 8 else r_6)]) (rest := []) ⟨hx, hb, hml, hown, hts⟩ (c_X4_isWithin x2 0 (if 8 < r_6 then 8 else r_6) hf) (va_cwS 3 hts gX4_lay_X4_isWithin rfl rfl rfl (by decide +kernel) ⟨Nat.le_of_ble_eq_true rfl, Nat.le_of_ble_eq_true rfl⟩) (xPreS hG hP hD hp) rfl rfl hl.1 rfl (lv_room (Nat.le_of_ble_eq_true rfl)) dX4_lay_48 ⟨Nat.zero_le _, Nat.zero_le _⟩) hP hD hS hp (fun _ => rfl) (fun r_7 _ H locs hf hP hD hS => ?_)
        have hP : va_P D vwCl (wX k b ag as ap aq aa ab M N C Gr Pr Pa I Ln Sz dr pR pP pL pN qR qP qL qN aR aP aL aN bR bP bL bN) H := hP
        have hD : va_D A (wX k b ag as ap aq aa ab M N C Gr Pr Pa I Ln Sz dr pR pP pL pN qR qP qL qN aR aP aL aN bR bP bL bN) := hD
        refine lv_if_ne (tgt := 56) hx hb dX4_lay_51 (by decide) (fun c_8 => ?_) (fun c_8 => ?_)
        · have hf := hf.2 c_8
          refine lv_aload hx hb dX4_lay_56 (lv_at hl 0 rfl) ?_
          have hp : xPerm (wX k b ag as ap aq aa ab M N C Gr Pr Pa I Ln Sz dr pR pP pL pN qR qP qL qN aR aP aL aN bR bP bL bN) ((wT k ab bR bP bL bN) ++ ([((b 0, .inr (4, [.ref (ag 0), .ref (b 1), .ref (b 2), .ref (aa 0), .ref (ab 0), .ref (b 3)])) : Nat × va_E)] ++ ([((b 1, .inl (k 5, 4, rfs (fun i => as (2 * i)))) : Nat × va_E)] ++ ([((b 2, .inr (3, [.ref (ap 0), .ref (aq 0)])) : Nat × va_E)] ++ ([((b 3, .inl (k 0, 40, .inl dr)) : Nat × va_E)] ++ (wG k ag M N C Gr Pr Pa ++ (wSS k as I Ln Sz ++ (wT k ap pR pP pL pN ++ (wT k aq qR qP qL qN ++ wT k aa aR aP aL aN))))))))) := (xPermC fun _ x => by simp only [wX, wW, List.count_append]; omega)
          refine xCallI (w := wT k ab bR bP bL bN) (r := [((b 0, .inr (4, [.ref (ag 0), .ref (b 1), .ref (b 2), .ref (aa 0), .ref (ab 0), .ref (b 3)])) : Nat × va_E)] ++ ([((b 1, .inl (k 5, 4, rfs (fun i => as (2 * i)))) : Nat × va_E)] ++ ([((b 2, .inr (3, [.ref (ap 0), .ref (aq 0)])) : Nat × va_E)] ++ ([((b 3, .inl (k 0, 40, .inl dr)) : Nat × va_E)] ++ (wG k ag M N C Gr Pr Pa ++ (wSS k as I Ln Sz ++ (wT k ap pR pP pL pN ++ (wT k aq qR qP qL qN ++ wT k aa aR aP aL aN)))))))) (va_runV (As := []) (rest := []) ⟨hx, hb, hml, hown, hts⟩ (c_X2_placeCount ab bR bP bL bN hf) (cwV 0 hts gX4_lay_X2_placeCount rfl rfl rfl (by decide +kernel) ⟨Nat.le_of_ble_eq_true rfl, Nat.le_of_ble_eq_true rfl⟩) (xPreV hG hP hD hp (ci := 2) rfl (i := 0) rfl) rfl rfl hl.1 rfl (lv_room (Nat.le_of_ble_eq_true rfl)) dX4_lay_58 ⟨Nat.zero_le _, Nat.zero_le _⟩) hP hD hS hp (fun _ => wT_adr) (fun r_9 _ H locs hf hP hD hS => ?_)
          have hP : va_P D vwCl (wX k b ag as ap aq aa ab M N C Gr Pr Pa I Ln Sz dr pR pP pL pN qR qP qL qN aR aP aL aN bR bP bL bN) H := xP_perm (xPermC fun _ x => by simp only [wX, wW, List.count_append]; omega) hP
          have hD : va_D A (wX k b ag as ap aq aa ab M N C Gr Pr Pa I Ln Sz dr pR pP pL pN qR qP qL qN aR aP aL aN bR bP bL bN) := xD_perm (xPermC fun _ x => by simp only [wX, wW, List.count_append]; omega) hD
          refine lv_bipush (v := 40) hx hb dX4_lay_61 (by decide) ?_
          refine lv_icmp_lt (tgt := 69) hx hb dX4_lay_63 (by decide) (fun c_10 => ?_) (fun c_10 => ?_)
          · have hf := hf.1 c_10
            refine lv_aload hx hb dX4_lay_69 (lv_at hl 0 rfl) ?_
            refine lv_iload_n hx hb dX4_lay_71 rfl (lv_at hl 3 rfl) ?_
            refine lv_iload_n hx hb dX4_lay_72 rfl (lv_at hl 4 rfl) ?_
            have hp : xPerm (wX k b ag as ap aq aa ab M N C Gr Pr Pa I Ln Sz dr pR pP pL pN qR qP qL qN aR aP aL aN bR bP bL bN) ((wT k ab bR bP bL bN) ++ ([((b 0, .inr (4, [.ref (ag 0), .ref (b 1), .ref (b 2), .ref (aa 0), .ref (ab 0), .ref (b 3)])) : Nat × va_E)] ++ ([((b 1, .inl (k 5, 4, rfs (fun i => as (2 * i)))) : Nat × va_E)] ++ ([((b 2, .inr (3, [.ref (ap 0), .ref (aq 0)])) : Nat × va_E)] ++ ([((b 3, .inl (k 0, 40, .inl dr)) : Nat × va_E)] ++ (wG k ag M N C Gr Pr Pa ++ (wSS k as I Ln Sz ++ (wT k ap pR pP pL pN ++ (wT k aq qR qP qL qN ++ wT k aa aR aP aL aN))))))))) := (xPermC fun _ x => by simp only [wX, wW, List.count_append]; omega)
            refine xCallV (w := wT k ab bR bP bL bN) (r := [((b 0, .inr (4, [.ref (ag 0), .ref (b 1), .ref (b 2), .ref (aa 0), .ref (ab 0), .ref (b 3)])) : Nat × va_E)] ++ ([((b 1, .inl (k 5, 4, rfs (fun i => as (2 * i)))) : Nat × va_E)] ++ ([((b 2, .inr (3, [.ref (ap 0), .ref (aq 0)])) : Nat × va_E)] ++ ([((b 3, .inl (k 0, 40, .inl dr)) : Nat × va_E)] ++ (wG k ag M N C Gr Pr Pa ++ (wSS k as I Ln Sz ++ (wT k ap pR pP pL pN ++ (wT k aq qR qP qL qN ++ wT k aa aR aP aL aN)))))))) (va_runV (As := [.int x2, .int x3]) (rest := []) ⟨hx, hb, hml, hown, hts⟩ (c_X2_append ab bR bP bL bN x2 x3 hf) (cwV 2 hts gX4_lay_X2_append rfl rfl rfl (by decide +kernel) ⟨Nat.le_of_ble_eq_true rfl, Nat.le_of_ble_eq_true rfl⟩) (xPreV hG hP hD hp (ci := 2) rfl (i := 0) rfl) rfl rfl hl.1 rfl (lv_room (Nat.le_of_ble_eq_true rfl)) dX4_lay_73 ⟨Nat.zero_le _, Nat.zero_le _⟩) hP hD hS hp (fun _ => wT_adr) (fun u H locs hf hP hD hS => ?_)
            obtain ⟨R_11, P_12, L_13, N_14⟩ := u
            have hP : va_P D vwCl (wX k b ag as ap aq aa ab M N C Gr Pr Pa I Ln Sz dr pR pP pL pN qR qP qL qN aR aP aL aN R_11 P_12 L_13 N_14) H := xP_perm (xPermC fun _ x => by simp only [wX, wW, List.count_append]; omega) hP
            have hD : va_D A (wX k b ag as ap aq aa ab M N C Gr Pr Pa I Ln Sz dr pR pP pL pN qR qP qL qN aR aP aL aN R_11 P_12 L_13 N_14) := xD_perm (xPermC fun _ x => by simp only [wX, wW, List.count_append]; omega) hD
            refine lv_aload hx hb dX4_lay_76 (lv_at hl 0 rfl) ?_
            refine lv_iload_n hx hb dX4_lay_78 rfl (lv_at hl 3 rfl) ?_
            have hp : xPerm (wX k b ag as ap aq aa ab M N C Gr Pr Pa I Ln Sz dr pR pP pL pN qR qP qL qN aR aP aL aN R_11 P_12 L_13 N_14) ((wT k ab R_11 P_12 L_13 N_14) ++ ([((b 0, .inr (4, [.ref (ag 0), .ref (b 1), .ref (b 2), .ref (aa 0), .ref (ab 0), .ref (b 3)])) : Nat × va_E)] ++ ([((b 1, .inl (k 5, 4, rfs (fun i => as (2 * i)))) : Nat × va_E)] ++ ([((b 2, .inr (3, [.ref (ap 0), .ref (aq 0)])) : Nat × va_E)] ++ ([((b 3, .inl (k 0, 40, .inl dr)) : Nat × va_E)] ++ (wG k ag M N C Gr Pr Pa ++ (wSS k as I Ln Sz ++ (wT k ap pR pP pL pN ++ (wT k aq qR qP qL qN ++ wT k aa aR aP aL aN))))))))) := (xPermC fun _ x => by simp only [wX, wW, List.count_append]; omega)
            refine xCallI (w := wT k ab R_11 P_12 L_13 N_14) (r := [((b 0, .inr (4, [.ref (ag 0), .ref (b 1), .ref (b 2), .ref (aa 0), .ref (ab 0), .ref (b 3)])) : Nat × va_E)] ++ ([((b 1, .inl (k 5, 4, rfs (fun i => as (2 * i)))) : Nat × va_E)] ++ ([((b 2, .inr (3, [.ref (ap 0), .ref (aq 0)])) : Nat × va_E)] ++ ([((b 3, .inl (k 0, 40, .inl dr)) : Nat × va_E)] ++ (wG k ag M N C Gr Pr Pa ++ (wSS k as I Ln Sz ++ (wT k ap pR pP pL pN ++ (wT k aq qR qP qL qN ++ wT k aa aR aP aL aN)))))))) (va_runV (As := [.int x2]) (rest := []) ⟨hx, hb, hml, hown, hts⟩ (c_X2_lengthOf ab R_11 P_12 L_13 N_14 x2 hf) (cwV 1 hts gX4_lay_X2_lengthOf rfl rfl rfl (by decide +kernel) ⟨Nat.le_of_ble_eq_true rfl, Nat.le_of_ble_eq_true rfl⟩) (xPreV hG hP hD hp (ci := 2) rfl (i := 0) rfl) rfl rfl hl.1 rfl (lv_room (Nat.le_of_ble_eq_true rfl)) dX4_lay_79 ⟨Nat.zero_le _, Nat.zero_le _⟩) hP hD hS hp (fun _ => wT_adr) (fun r_15 _ H locs hf hP hD hS => ?_)
            have hP : va_P D vwCl (wX k b ag as ap aq aa ab M N C Gr Pr Pa I Ln Sz dr pR pP pL pN qR qP qL qN aR aP aL aN R_11 P_12 L_13 N_14) H := xP_perm (xPermC fun _ x => by simp only [wX, wW, List.count_append]; omega) hP
            have hD : va_D A (wX k b ag as ap aq aa ab M N C Gr Pr Pa I Ln Sz dr pR pP pL pN qR qP qL qN aR aP aL aN R_11 P_12 L_13 N_14) := xD_perm (xPermC fun _ x => by simp only [wX, wW, List.count_append]; omega) hD
            exact W.iret (v := r_15) hx hb hr (fun t ht hW => ⟨⟨r_15, (aR, aP, aL, aN, R_11, P_12, L_13, N_14), rfl, hf, xHp ht hP⟩, hS.F ht⟩) hS.2.2 dX4_lay_82 hlocks
          · have hf := hf.2 c_10
            refine lv_bipush (v := (-3)) hx hb dX4_lay_66 (by decide) ?_
            exact W.iret (v := (-3)) hx hb hr (fun t ht hW => ⟨⟨((-3) : Int32), (aR, aP, aL, aN, bR, bP, bL, bN), rfl, hf, xHp ht hP⟩, hS.F ht⟩) hS.2.2 dX4_lay_68 hlocks
        · have hf := hf.1 c_8
          refine lv_iconst (v := (-1)) hx hb dX4_lay_54 (by decide) ?_
          exact W.iret (v := (-1)) hx hb hr (fun t ht hW => ⟨⟨((-1) : Int32), (aR, aP, aL, aN, bR, bP, bL, bN), rfl, hf, xHp ht hP⟩, hS.F ht⟩) hS.2.2 dX4_lay_55 hlocks
      · have hf := hf.1 c_5
        refine lv_aload_n hx hb dX4_lay_23 rfl (lv_at hl 0 rfl) ?_
        refine va_get (D := D) (ci := 4) (C := RX4) (T := TX4) (N := 6) hx hb hts in_X4_lay_X4 hown hG.1 hP 0 rfl rfl 3 (by decide) (hts _ lk_X4_lay_33) (fun _ h9 => h9) rfl dX4_lay_24 ?_
        refine lv_goto (tgt := 34) hx hb dX4_lay_27 (by decide) ?_
        refine lv_astore (lv' := [(4, .ref (aa 0)), (0, .ref (b 0)), (1, .int x1), (2, .int x2), (3, .int x3)]) hx hb dX4_lay_34 hl (by decide) rfl (fun ls hl => ?_)
        refine lv_iload_n hx hb dX4_lay_36 rfl (lv_at hl 3 rfl) ?_
        refine lv_iconst (v := 0) hx hb dX4_lay_37 (by decide) ?_
        refine lv_aload hx hb dX4_lay_38 (lv_at hl 0 rfl) ?_
        have hp : xPerm (wX k b ag as ap aq aa ab M N C Gr Pr Pa I Ln Sz dr pR pP pL pN qR qP qL qN aR aP aL aN bR bP bL bN) ((wT k aa aR aP aL aN) ++ ([((b 0, .inr (4, [.ref (ag 0), .ref (b 1), .ref (b 2), .ref (aa 0), .ref (ab 0), .ref (b 3)])) : Nat × va_E)] ++ ([((b 1, .inl (k 5, 4, rfs (fun i => as (2 * i)))) : Nat × va_E)] ++ ([((b 2, .inr (3, [.ref (ap 0), .ref (aq 0)])) : Nat × va_E)] ++ ([((b 3, .inl (k 0, 40, .inl dr)) : Nat × va_E)] ++ (wG k ag M N C Gr Pr Pa ++ (wSS k as I Ln Sz ++ (wT k ap pR pP pL pN ++ (wT k aq qR qP qL qN ++ wT k ab bR bP bL bN))))))))) := (xPermC fun _ x => by simp only [wX, wW, List.count_append]; omega)
        refine xCallI (w := wT k aa aR aP aL aN) (r := [((b 0, .inr (4, [.ref (ag 0), .ref (b 1), .ref (b 2), .ref (aa 0), .ref (ab 0), .ref (b 3)])) : Nat × va_E)] ++ ([((b 1, .inl (k 5, 4, rfs (fun i => as (2 * i)))) : Nat × va_E)] ++ ([((b 2, .inr (3, [.ref (ap 0), .ref (aq 0)])) : Nat × va_E)] ++ ([((b 3, .inl (k 0, 40, .inl dr)) : Nat × va_E)] ++ (wG k ag M N C Gr Pr Pa ++ (wSS k as I Ln Sz ++ (wT k ap pR pP pL pN ++ (wT k aq qR qP qL qN ++ wT k ab bR bP bL bN)))))))) (va_runV (As := []) (rest := [.int 0, .int x2]) ⟨hx, hb, hml, hown, hts⟩ (c_X2_rowCount aa aR aP aL aN hf) (cwV 0 hts gX4_lay_X2_rowCount rfl rfl rfl (by decide +kernel) ⟨Nat.le_of_ble_eq_true rfl, Nat.le_of_ble_eq_true rfl⟩) (xPreV hG hP hD hp (ci := 2) rfl (i := 0) rfl) rfl rfl hl.1 rfl (lv_room (Nat.le_of_ble_eq_true rfl)) dX4_lay_40 ⟨Nat.zero_le _, Nat.zero_le _⟩) hP hD hS hp (fun _ => wT_adr) (fun r_16 _ H locs hf hP hD hS => ?_)
        have hP : va_P D vwCl (wX k b ag as ap aq aa ab M N C Gr Pr Pa I Ln Sz dr pR pP pL pN qR qP qL qN aR aP aL aN bR bP bL bN) H := xP_perm (xPermC fun _ x => by simp only [wX, wW, List.count_append]; omega) hP
        have hD : va_D A (wX k b ag as ap aq aa ab M N C Gr Pr Pa I Ln Sz dr pR pP pL pN qR qP qL qN aR aP aL aN bR bP bL bN) := xD_perm (xPermC fun _ x => by simp only [wX, wW, List.count_append]; omega) hD
        refine lv_bipush (v := 8) hx hb dX4_lay_43 (by decide) ?_
        refine va_mmin hx hb (hml.trans hl.1.symm) hown (hts _ mb_X4_lay_ml166) (hts _ mb_X4_lay_ms_min) (hts _ mb_X4_lay_mi) (hts _ mb_X4_lay_mc_min) (Nat.le_of_ble_eq_true rfl) (Nat.le_of_ble_eq_true rfl) (Nat.zero_le _) (Nat.zero_le _) dX4_lay_45 ?_
        have hp : xPerm (wX k b ag as ap aq aa ab M N C Gr Pr Pa I Ln Sz dr pR pP pL pN qR qP qL qN aR aP aL aN bR bP bL bN) (([]) ++ (wX k b ag as ap aq aa ab M N C Gr Pr Pa I Ln Sz dr pR pP pL pN qR qP qL qN aR aP aL aN bR bP bL bN)) := (List.Perm.refl _)
        refine xCallI (w := []) (r := wX k b ag as ap aq aa ab M N C Gr Pr Pa I Ln Sz dr pR pP pL pN qR qP qL qN aR aP aL aN bR bP bL bN) (va_runS (As := [.int x2, .int 0, .int (if 8 < r_16 then 8 else r_16)]) (rest := []) ⟨hx, hb, hml, hown, hts⟩ (c_X4_isWithin x2 0 (if 8 < r_16 then 8 else r_16) hf) (va_cwS 3 hts gX4_lay_X4_isWithin rfl rfl rfl (by decide +kernel) ⟨Nat.le_of_ble_eq_true rfl, Nat.le_of_ble_eq_true rfl⟩) (xPreS hG hP hD hp) rfl rfl hl.1 rfl (lv_room (Nat.le_of_ble_eq_true rfl)) dX4_lay_48 ⟨Nat.zero_le _, Nat.zero_le _⟩) hP hD hS hp (fun _ => rfl) (fun r_17 _ H locs hf hP hD hS => ?_)
        have hP : va_P D vwCl (wX k b ag as ap aq aa ab M N C Gr Pr Pa I Ln Sz dr pR pP pL pN qR qP qL qN aR aP aL aN bR bP bL bN) H := hP
        have hD : va_D A (wX k b ag as ap aq aa ab M N C Gr Pr Pa I Ln Sz dr pR pP pL pN qR qP qL qN aR aP aL aN bR bP bL bN) := hD
        refine lv_if_ne (tgt := 56) hx hb dX4_lay_51 (by decide) (fun c_18 => ?_) (fun c_18 => ?_)
        · have hf := hf.2 c_18
          refine lv_aload hx hb dX4_lay_56 (lv_at hl 0 rfl) ?_
          have hp : xPerm (wX k b ag as ap aq aa ab M N C Gr Pr Pa I Ln Sz dr pR pP pL pN qR qP qL qN aR aP aL aN bR bP bL bN) ((wT k aa aR aP aL aN) ++ ([((b 0, .inr (4, [.ref (ag 0), .ref (b 1), .ref (b 2), .ref (aa 0), .ref (ab 0), .ref (b 3)])) : Nat × va_E)] ++ ([((b 1, .inl (k 5, 4, rfs (fun i => as (2 * i)))) : Nat × va_E)] ++ ([((b 2, .inr (3, [.ref (ap 0), .ref (aq 0)])) : Nat × va_E)] ++ ([((b 3, .inl (k 0, 40, .inl dr)) : Nat × va_E)] ++ (wG k ag M N C Gr Pr Pa ++ (wSS k as I Ln Sz ++ (wT k ap pR pP pL pN ++ (wT k aq qR qP qL qN ++ wT k ab bR bP bL bN))))))))) := (xPermC fun _ x => by simp only [wX, wW, List.count_append]; omega)
          refine xCallI (w := wT k aa aR aP aL aN) (r := [((b 0, .inr (4, [.ref (ag 0), .ref (b 1), .ref (b 2), .ref (aa 0), .ref (ab 0), .ref (b 3)])) : Nat × va_E)] ++ ([((b 1, .inl (k 5, 4, rfs (fun i => as (2 * i)))) : Nat × va_E)] ++ ([((b 2, .inr (3, [.ref (ap 0), .ref (aq 0)])) : Nat × va_E)] ++ ([((b 3, .inl (k 0, 40, .inl dr)) : Nat × va_E)] ++ (wG k ag M N C Gr Pr Pa ++ (wSS k as I Ln Sz ++ (wT k ap pR pP pL pN ++ (wT k aq qR qP qL qN ++ wT k ab bR bP bL bN)))))))) (va_runV (As := []) (rest := []) ⟨hx, hb, hml, hown, hts⟩ (c_X2_placeCount aa aR aP aL aN hf) (cwV 0 hts gX4_lay_X2_placeCount rfl rfl rfl (by decide +kernel) ⟨Nat.le_of_ble_eq_true rfl, Nat.le_of_ble_eq_true rfl⟩) (xPreV hG hP hD hp (ci := 2) rfl (i := 0) rfl) rfl rfl hl.1 rfl (lv_room (Nat.le_of_ble_eq_true rfl)) dX4_lay_58 ⟨Nat.zero_le _, Nat.zero_le _⟩) hP hD hS hp (fun _ => wT_adr) (fun r_19 _ H locs hf hP hD hS => ?_)
          have hP : va_P D vwCl (wX k b ag as ap aq aa ab M N C Gr Pr Pa I Ln Sz dr pR pP pL pN qR qP qL qN aR aP aL aN bR bP bL bN) H := xP_perm (xPermC fun _ x => by simp only [wX, wW, List.count_append]; omega) hP
          have hD : va_D A (wX k b ag as ap aq aa ab M N C Gr Pr Pa I Ln Sz dr pR pP pL pN qR qP qL qN aR aP aL aN bR bP bL bN) := xD_perm (xPermC fun _ x => by simp only [wX, wW, List.count_append]; omega) hD
          refine lv_bipush (v := 40) hx hb dX4_lay_61 (by decide) ?_
          refine lv_icmp_lt (tgt := 69) hx hb dX4_lay_63 (by decide) (fun c_20 => ?_) (fun c_20 => ?_)
          · have hf := hf.1 c_20
            refine lv_aload hx hb dX4_lay_69 (lv_at hl 0 rfl) ?_
            refine lv_iload_n hx hb dX4_lay_71 rfl (lv_at hl 3 rfl) ?_
            refine lv_iload_n hx hb dX4_lay_72 rfl (lv_at hl 4 rfl) ?_
            have hp : xPerm (wX k b ag as ap aq aa ab M N C Gr Pr Pa I Ln Sz dr pR pP pL pN qR qP qL qN aR aP aL aN bR bP bL bN) ((wT k aa aR aP aL aN) ++ ([((b 0, .inr (4, [.ref (ag 0), .ref (b 1), .ref (b 2), .ref (aa 0), .ref (ab 0), .ref (b 3)])) : Nat × va_E)] ++ ([((b 1, .inl (k 5, 4, rfs (fun i => as (2 * i)))) : Nat × va_E)] ++ ([((b 2, .inr (3, [.ref (ap 0), .ref (aq 0)])) : Nat × va_E)] ++ ([((b 3, .inl (k 0, 40, .inl dr)) : Nat × va_E)] ++ (wG k ag M N C Gr Pr Pa ++ (wSS k as I Ln Sz ++ (wT k ap pR pP pL pN ++ (wT k aq qR qP qL qN ++ wT k ab bR bP bL bN))))))))) := (xPermC fun _ x => by simp only [wX, wW, List.count_append]; omega)
            refine xCallV (w := wT k aa aR aP aL aN) (r := [((b 0, .inr (4, [.ref (ag 0), .ref (b 1), .ref (b 2), .ref (aa 0), .ref (ab 0), .ref (b 3)])) : Nat × va_E)] ++ ([((b 1, .inl (k 5, 4, rfs (fun i => as (2 * i)))) : Nat × va_E)] ++ ([((b 2, .inr (3, [.ref (ap 0), .ref (aq 0)])) : Nat × va_E)] ++ ([((b 3, .inl (k 0, 40, .inl dr)) : Nat × va_E)] ++ (wG k ag M N C Gr Pr Pa ++ (wSS k as I Ln Sz ++ (wT k ap pR pP pL pN ++ (wT k aq qR qP qL qN ++ wT k ab bR bP bL bN)))))))) (va_runV (As := [.int x2, .int x3]) (rest := []) ⟨hx, hb, hml, hown, hts⟩ (c_X2_append aa aR aP aL aN x2 x3 hf) (cwV 2 hts gX4_lay_X2_append rfl rfl rfl (by decide +kernel) ⟨Nat.le_of_ble_eq_true rfl, Nat.le_of_ble_eq_true rfl⟩) (xPreV hG hP hD hp (ci := 2) rfl (i := 0) rfl) rfl rfl hl.1 rfl (lv_room (Nat.le_of_ble_eq_true rfl)) dX4_lay_73 ⟨Nat.zero_le _, Nat.zero_le _⟩) hP hD hS hp (fun _ => wT_adr) (fun u H locs hf hP hD hS => ?_)
            obtain ⟨R_21, P_22, L_23, N_24⟩ := u
            have hP : va_P D vwCl (wX k b ag as ap aq aa ab M N C Gr Pr Pa I Ln Sz dr pR pP pL pN qR qP qL qN R_21 P_22 L_23 N_24 bR bP bL bN) H := xP_perm (xPermC fun _ x => by simp only [wX, wW, List.count_append]; omega) hP
            have hD : va_D A (wX k b ag as ap aq aa ab M N C Gr Pr Pa I Ln Sz dr pR pP pL pN qR qP qL qN R_21 P_22 L_23 N_24 bR bP bL bN) := xD_perm (xPermC fun _ x => by simp only [wX, wW, List.count_append]; omega) hD
            refine lv_aload hx hb dX4_lay_76 (lv_at hl 0 rfl) ?_
            refine lv_iload_n hx hb dX4_lay_78 rfl (lv_at hl 3 rfl) ?_
            have hp : xPerm (wX k b ag as ap aq aa ab M N C Gr Pr Pa I Ln Sz dr pR pP pL pN qR qP qL qN R_21 P_22 L_23 N_24 bR bP bL bN) ((wT k aa R_21 P_22 L_23 N_24) ++ ([((b 0, .inr (4, [.ref (ag 0), .ref (b 1), .ref (b 2), .ref (aa 0), .ref (ab 0), .ref (b 3)])) : Nat × va_E)] ++ ([((b 1, .inl (k 5, 4, rfs (fun i => as (2 * i)))) : Nat × va_E)] ++ ([((b 2, .inr (3, [.ref (ap 0), .ref (aq 0)])) : Nat × va_E)] ++ ([((b 3, .inl (k 0, 40, .inl dr)) : Nat × va_E)] ++ (wG k ag M N C Gr Pr Pa ++ (wSS k as I Ln Sz ++ (wT k ap pR pP pL pN ++ (wT k aq qR qP qL qN ++ wT k ab bR bP bL bN))))))))) := (xPermC fun _ x => by simp only [wX, wW, List.count_append]; omega)
            refine xCallI (w := wT k aa R_21 P_22 L_23 N_24) (r := [((b 0, .inr (4, [.ref (ag 0), .ref (b 1), .ref (b 2), .ref (aa 0), .ref (ab 0), .ref (b 3)])) : Nat × va_E)] ++ ([((b 1, .inl (k 5, 4, rfs (fun i => as (2 * i)))) : Nat × va_E)] ++ ([((b 2, .inr (3, [.ref (ap 0), .ref (aq 0)])) : Nat × va_E)] ++ ([((b 3, .inl (k 0, 40, .inl dr)) : Nat × va_E)] ++ (wG k ag M N C Gr Pr Pa ++ (wSS k as I Ln Sz ++ (wT k ap pR pP pL pN ++ (wT k aq qR qP qL qN ++ wT k ab bR bP bL bN)))))))) (va_runV (As := [.int x2]) (rest := []) ⟨hx, hb, hml, hown, hts⟩ (c_X2_lengthOf aa R_21 P_22 L_23 N_24 x2 hf) (cwV 1 hts gX4_lay_X2_lengthOf rfl rfl rfl (by decide +kernel) ⟨Nat.le_of_ble_eq_true rfl, Nat.le_of_ble_eq_true rfl⟩) (xPreV hG hP hD hp (ci := 2) rfl (i := 0) rfl) rfl rfl hl.1 rfl (lv_room (Nat.le_of_ble_eq_true rfl)) dX4_lay_79 ⟨Nat.zero_le _, Nat.zero_le _⟩) hP hD hS hp (fun _ => wT_adr) (fun r_25 _ H locs hf hP hD hS => ?_)
            have hP : va_P D vwCl (wX k b ag as ap aq aa ab M N C Gr Pr Pa I Ln Sz dr pR pP pL pN qR qP qL qN R_21 P_22 L_23 N_24 bR bP bL bN) H := xP_perm (xPermC fun _ x => by simp only [wX, wW, List.count_append]; omega) hP
            have hD : va_D A (wX k b ag as ap aq aa ab M N C Gr Pr Pa I Ln Sz dr pR pP pL pN qR qP qL qN R_21 P_22 L_23 N_24 bR bP bL bN) := xD_perm (xPermC fun _ x => by simp only [wX, wW, List.count_append]; omega) hD
            exact W.iret (v := r_25) hx hb hr (fun t ht hW => ⟨⟨r_25, (R_21, P_22, L_23, N_24, bR, bP, bL, bN), rfl, hf, xHp ht hP⟩, hS.F ht⟩) hS.2.2 dX4_lay_82 hlocks
          · have hf := hf.2 c_20
            refine lv_bipush (v := (-3)) hx hb dX4_lay_66 (by decide) ?_
            exact W.iret (v := (-3)) hx hb hr (fun t ht hW => ⟨⟨((-3) : Int32), (aR, aP, aL, aN, bR, bP, bL, bN), rfl, hf, xHp ht hP⟩, hS.F ht⟩) hS.2.2 dX4_lay_68 hlocks
        · have hf := hf.1 c_18
          refine lv_iconst (v := (-1)) hx hb dX4_lay_54 (by decide) ?_
          exact W.iret (v := (-1)) hx hb hr (fun t ht hW => ⟨⟨((-1) : Int32), (aR, aP, aL, aN, bR, bP, bL, bN), rfl, hf, xHp ht hP⟩, hS.F ht⟩) hS.2.2 dX4_lay_55 hlocks
    · have hf := hf.1 c_4
      refine lv_iconst (v := (-1)) hx hb dX4_lay_17 (by decide) ?_
      exact W.iret (v := (-1)) hx hb hr (fun t ht hW => ⟨⟨((-1) : Int32), (aR, aP, aL, aN, bR, bP, bL, bN), rfl, hf, xHp ht hP⟩, hS.F ht⟩) hS.2.2 dX4_lay_18 hlocks

def p_X4_unlay (aR : Int32) (aP : Int32) (aL : Nat → Int32) (bR : Int32) (bP : Int32) (bL : Nat → Int32) (post : Int32 → Int32 → Int32 → (Nat → Int32) → Int32 → Int32 → (Nat → Int32) → Prop) : Prop := p_X2_placeCount aP (fun r_1 => p_X2_placeCount bP (fun r_2 => p_X2_empty aR aP aL (fun R_3 P_4 L_5 => p_X2_empty bR bP bL (fun R_6 P_7 L_8 => post (r_1 + r_2) R_3 P_4 L_5 R_6 P_7 L_8))))
theorem in_X4_unlay_X4 : ∀ w ∈ u_ws RX4 TX4 6, w ∈ wsX4_unlay := by decide +kernel
theorem lk_X4_unlay_33 : Cond.fieldLink RX4 33 "GrowingCorners" "laidP" "LGrowingCorners$Tableau;" ∈ wsX4_unlay := by decide +kernel
theorem lk_X4_unlay_37 : Cond.fieldLink RX4 37 "GrowingCorners" "laidQ" "LGrowingCorners$Tableau;" ∈ wsX4_unlay := by decide +kernel
set_option maxHeartbeats 4000000 in
set_option maxRecDepth 100000 in
theorem c_X4_unlay {l : Launch} {D : va_G} {k : Nat → ClassId} (b : Nat → Nat) (ag : Nat → Nat) (as : Nat → Nat) (ap : Nat → Nat) (aq : Nat → Nat) (aa : Nat → Nat) (ab : Nat → Nat) (M : Int32) (N : Int32) (C : Nat → Nat → Int32) (Gr : Nat → Nat → Int32) (Pr : Nat → Nat → Int64) (Pa : Nat → Nat → Int32) (I : Nat → Nat → Int64) (Ln : Nat → Int32) (Sz : Nat → Int32) (dr : Nat → Int32) (pR : Int32) (pP : Int32) (pL : Nat → Int32) (pN : Nat → Nat → Int32) (qR : Int32) (qP : Int32) (qL : Nat → Int32) (qN : Nat → Nat → Int32) (aR : Int32) (aP : Int32) (aL : Nat → Int32) (aN : Nat → Nat → Int32) (bR : Int32) (bP : Int32) (bL : Nat → Int32) (bN : Nat → Nat → Int32) {post : Int32 → Int32 → Int32 → (Nat → Int32) → Int32 → Int32 → (Nat → Int32) → Prop} (hf : p_X4_unlay aR aP aL bR bP bL post) : ctI l yX4_unlay wsX4_unlay ({ frames := 2, cells := 0, slots := 0, locals := 43 }) D k [.ref (b 0)] (wX k b ag as ap aq aa ab M N C Gr Pr Pa I Ln Sz dr pR pP pL pN qR qP qL qN aR aP aL aN bR bP bL bN) (fun u : Int32 × Int32 × (Nat → Int32) × Int32 × Int32 × (Nat → Int32) => wX k b ag as ap aq aa ab M N C Gr Pr Pa I Ln Sz dr pR pP pL pN qR qP qL qN (u.1) (u.2.1) (u.2.2.1) aN (u.2.2.2.1) (u.2.2.2.2.1) (u.2.2.2.2.2) bN) (fun (r : Int32) (u : Int32 × Int32 × (Nat → Int32) × Int32 × Int32 × (Nat → Int32)) => post r u.1 u.2.1 u.2.2.1 u.2.2.2.1 u.2.2.2.2.1 u.2.2.2.2.2) := by
  refine Met.ofW (cc := cX4_unlay) (maxL := 2) (ret := (some .int)) (by decide) rfl ?_
  intro p e s m args below meth c s₁ B hml hv
  obtain ⟨rfl, hP, hG, hD0⟩ := hv
  have C0 : xM p s m ([.ref (b 0)] : List Value).toArray meth c cX4_unlay 2 RX4 (some .int) wsX4_unlay := ⟨B.exec, B.bytes, B.returns, atoms_spec (ws := wsX4_unlay) B.pre, findClass_of_methodNamed B.named, B.notSynchronized, hml⟩
  obtain ⟨hx, hb, hr, hts, hown, hlocks, hml⟩ := id C0
  have hD := xSelf hD0
  have hS : va_S (xIn (wX k b ag as ap aq aa ab M N C Gr Pr Pa I Ln Sz dr pR pP pL pN qR qP qL qN aR aP aL aN bR bP bL bN)) s.heap s.heap [] := va_S.rf
  generalize xIn (wX k b ag as ap aq aa ab M N C Gr Pr Pa I Ln Sz dr pR pP pL pN qR qP qL qN aR aP aL aN bR bP bL bN) = A at hD hS ⊢
  have hl := lv_entry ([.ref (b 0)]) (n := 2) (Nat.le_of_ble_eq_true rfl)
  rw [lg_entry_eq]
  generalize (lg_sl ([.ref (b 0)]) ++ List.replicate (2 - (lg_sl ([.ref (b 0)])).length) Slot.unset).toArray = ls at hl ⊢
  have hl : lv_has ls 2 [(0, .ref (b 0))] := hl
  unfold p_X4_unlay at hf
  refine lv_aload_n hx hb dX4_unlay_0 rfl (lv_at hl 0 rfl) ?_
  refine va_get (D := D) (ci := 4) (C := RX4) (T := TX4) (N := 6) hx hb hts in_X4_unlay_X4 hown hG.1 hP 0 rfl rfl 3 (by decide) (hts _ lk_X4_unlay_33) (fun _ h9 => h9) rfl dX4_unlay_1 ?_
  have hp : xPerm (wX k b ag as ap aq aa ab M N C Gr Pr Pa I Ln Sz dr pR pP pL pN qR qP qL qN aR aP aL aN bR bP bL bN) ((wT k aa aR aP aL aN) ++ ([((b 0, .inr (4, [.ref (ag 0), .ref (b 1), .ref (b 2), .ref (aa 0), .ref (ab 0), .ref (b 3)])) : Nat × va_E)] ++ ([((b 1, .inl (k 5, 4, rfs (fun i => as (2 * i)))) : Nat × va_E)] ++ ([((b 2, .inr (3, [.ref (ap 0), .ref (aq 0)])) : Nat × va_E)] ++ ([((b 3, .inl (k 0, 40, .inl dr)) : Nat × va_E)] ++ (wG k ag M N C Gr Pr Pa ++ (wSS k as I Ln Sz ++ (wT k ap pR pP pL pN ++ (wT k aq qR qP qL qN ++ wT k ab bR bP bL bN))))))))) := (xPermC fun _ x => by simp only [wX, wW, List.count_append]; omega)
  refine xCallI (w := wT k aa aR aP aL aN) (r := [((b 0, .inr (4, [.ref (ag 0), .ref (b 1), .ref (b 2), .ref (aa 0), .ref (ab 0), .ref (b 3)])) : Nat × va_E)] ++ ([((b 1, .inl (k 5, 4, rfs (fun i => as (2 * i)))) : Nat × va_E)] ++ ([((b 2, .inr (3, [.ref (ap 0), .ref (aq 0)])) : Nat × va_E)] ++ ([((b 3, .inl (k 0, 40, .inl dr)) : Nat × va_E)] ++ (wG k ag M N C Gr Pr Pa ++ (wSS k as I Ln Sz ++ (wT k ap pR pP pL pN ++ (wT k aq qR qP qL qN ++ wT k ab bR bP bL bN)))))))) (va_runV (As := []) (rest := []) ⟨hx, hb, hml, hown, hts⟩ (c_X2_placeCount aa aR aP aL aN hf) (cwV 0 hts gX4_unlay_X2_placeCount rfl rfl rfl (by decide +kernel) ⟨Nat.le_of_ble_eq_true rfl, Nat.le_of_ble_eq_true rfl⟩) (xPreV hG hP hD hp (ci := 2) rfl (i := 0) rfl) rfl rfl hl.1 rfl (lv_room (Nat.le_of_ble_eq_true rfl)) dX4_unlay_4 ⟨Nat.zero_le _, Nat.zero_le _⟩) hP hD hS hp (fun _ => wT_adr) (fun r_1 _ H locs hf hP hD hS => ?_)
  have hP : va_P D vwCl (wX k b ag as ap aq aa ab M N C Gr Pr Pa I Ln Sz dr pR pP pL pN qR qP qL qN aR aP aL aN bR bP bL bN) H := xP_perm (xPermC fun _ x => by simp only [wX, wW, List.count_append]; omega) hP
  have hD : va_D A (wX k b ag as ap aq aa ab M N C Gr Pr Pa I Ln Sz dr pR pP pL pN qR qP qL qN aR aP aL aN bR bP bL bN) := xD_perm (xPermC fun _ x => by simp only [wX, wW, List.count_append]; omega) hD
  refine lv_aload_n hx hb dX4_unlay_7 rfl (lv_at hl 0 rfl) ?_
  refine va_get (D := D) (ci := 4) (C := RX4) (T := TX4) (N := 6) hx hb hts in_X4_unlay_X4 hown hG.1 hP 0 rfl rfl 4 (by decide) (hts _ lk_X4_unlay_37) (fun _ h9 => h9) rfl dX4_unlay_8 ?_
  have hp : xPerm (wX k b ag as ap aq aa ab M N C Gr Pr Pa I Ln Sz dr pR pP pL pN qR qP qL qN aR aP aL aN bR bP bL bN) ((wT k ab bR bP bL bN) ++ ([((b 0, .inr (4, [.ref (ag 0), .ref (b 1), .ref (b 2), .ref (aa 0), .ref (ab 0), .ref (b 3)])) : Nat × va_E)] ++ ([((b 1, .inl (k 5, 4, rfs (fun i => as (2 * i)))) : Nat × va_E)] ++ ([((b 2, .inr (3, [.ref (ap 0), .ref (aq 0)])) : Nat × va_E)] ++ ([((b 3, .inl (k 0, 40, .inl dr)) : Nat × va_E)] ++ (wG k ag M N C Gr Pr Pa ++ (wSS k as I Ln Sz ++ (wT k ap pR pP pL pN ++ (wT k aq qR qP qL qN ++ wT k aa aR aP aL aN))))))))) := (xPermC fun _ x => by simp only [wX, wW, List.count_append]; omega)
  refine xCallI (w := wT k ab bR bP bL bN) (r := [((b 0, .inr (4, [.ref (ag 0), .ref (b 1), .ref (b 2), .ref (aa 0), .ref (ab 0), .ref (b 3)])) : Nat × va_E)] ++ ([((b 1, .inl (k 5, 4, rfs (fun i => as (2 * i)))) : Nat × va_E)] ++ ([((b 2, .inr (3, [.ref (ap 0), .ref (aq 0)])) : Nat × va_E)] ++ ([((b 3, .inl (k 0, 40, .inl dr)) : Nat × va_E)] ++ (wG k ag M N C Gr Pr Pa ++ (wSS k as I Ln Sz ++ (wT k ap pR pP pL pN ++ (wT k aq qR qP qL qN ++ wT k aa aR aP aL aN)))))))) (va_runV (As := []) (rest := [.int r_1]) ⟨hx, hb, hml, hown, hts⟩ (c_X2_placeCount ab bR bP bL bN hf) (cwV 0 hts gX4_unlay_X2_placeCount rfl rfl rfl (by decide +kernel) ⟨Nat.le_of_ble_eq_true rfl, Nat.le_of_ble_eq_true rfl⟩) (xPreV hG hP hD hp (ci := 2) rfl (i := 0) rfl) rfl rfl hl.1 rfl (lv_room (Nat.le_of_ble_eq_true rfl)) dX4_unlay_11 ⟨Nat.zero_le _, Nat.zero_le _⟩) hP hD hS hp (fun _ => wT_adr) (fun r_2 _ H locs hf hP hD hS => ?_)
  have hP : va_P D vwCl (wX k b ag as ap aq aa ab M N C Gr Pr Pa I Ln Sz dr pR pP pL pN qR qP qL qN aR aP aL aN bR bP bL bN) H := xP_perm (xPermC fun _ x => by simp only [wX, wW, List.count_append]; omega) hP
  have hD : va_D A (wX k b ag as ap aq aa ab M N C Gr Pr Pa I Ln Sz dr pR pP pL pN qR qP qL qN aR aP aL aN bR bP bL bN) := xD_perm (xPermC fun _ x => by simp only [wX, wW, List.count_append]; omega) hD
  refine lv_iadd hx hb dX4_unlay_14 ?_
  refine lv_istore_n (lv' := [(1, .int (r_1 + r_2)), (0, .ref (b 0))]) hx hb dX4_unlay_15 rfl hl (by decide) rfl (fun ls hl => ?_)
  refine lv_aload_n hx hb dX4_unlay_16 rfl (lv_at hl 1 rfl) ?_
  refine va_get (D := D) (ci := 4) (C := RX4) (T := TX4) (N := 6) hx hb hts in_X4_unlay_X4 hown hG.1 hP 0 rfl rfl 3 (by decide) (hts _ lk_X4_unlay_33) (fun _ h9 => h9) rfl dX4_unlay_17 ?_
  have hp : xPerm (wX k b ag as ap aq aa ab M N C Gr Pr Pa I Ln Sz dr pR pP pL pN qR qP qL qN aR aP aL aN bR bP bL bN) ((wT k aa aR aP aL aN) ++ ([((b 0, .inr (4, [.ref (ag 0), .ref (b 1), .ref (b 2), .ref (aa 0), .ref (ab 0), .ref (b 3)])) : Nat × va_E)] ++ ([((b 1, .inl (k 5, 4, rfs (fun i => as (2 * i)))) : Nat × va_E)] ++ ([((b 2, .inr (3, [.ref (ap 0), .ref (aq 0)])) : Nat × va_E)] ++ ([((b 3, .inl (k 0, 40, .inl dr)) : Nat × va_E)] ++ (wG k ag M N C Gr Pr Pa ++ (wSS k as I Ln Sz ++ (wT k ap pR pP pL pN ++ (wT k aq qR qP qL qN ++ wT k ab bR bP bL bN))))))))) := (xPermC fun _ x => by simp only [wX, wW, List.count_append]; omega)
  refine xCallV (w := wT k aa aR aP aL aN) (r := [((b 0, .inr (4, [.ref (ag 0), .ref (b 1), .ref (b 2), .ref (aa 0), .ref (ab 0), .ref (b 3)])) : Nat × va_E)] ++ ([((b 1, .inl (k 5, 4, rfs (fun i => as (2 * i)))) : Nat × va_E)] ++ ([((b 2, .inr (3, [.ref (ap 0), .ref (aq 0)])) : Nat × va_E)] ++ ([((b 3, .inl (k 0, 40, .inl dr)) : Nat × va_E)] ++ (wG k ag M N C Gr Pr Pa ++ (wSS k as I Ln Sz ++ (wT k ap pR pP pL pN ++ (wT k aq qR qP qL qN ++ wT k ab bR bP bL bN)))))))) (va_runV (As := []) (rest := []) ⟨hx, hb, hml, hown, hts⟩ (c_X2_empty aa aR aP aL aN hf) (cwV 0 hts gX4_unlay_X2_empty rfl rfl rfl (by decide +kernel) ⟨Nat.le_of_ble_eq_true rfl, Nat.le_of_ble_eq_true rfl⟩) (xPreV hG hP hD hp (ci := 2) rfl (i := 0) rfl) rfl rfl hl.1 rfl (lv_room (Nat.le_of_ble_eq_true rfl)) dX4_unlay_20 ⟨Nat.zero_le _, Nat.zero_le _⟩) hP hD hS hp (fun _ => wT_adr) (fun u H locs hf hP hD hS => ?_)
  obtain ⟨R_3, P_4, L_5⟩ := u
  have hP : va_P D vwCl (wX k b ag as ap aq aa ab M N C Gr Pr Pa I Ln Sz dr pR pP pL pN qR qP qL qN R_3 P_4 L_5 aN bR bP bL bN) H := xP_perm (xPermC fun _ x => by simp only [wX, wW, List.count_append]; omega) hP
  have hD : va_D A (wX k b ag as ap aq aa ab M N C Gr Pr Pa I Ln Sz dr pR pP pL pN qR qP qL qN R_3 P_4 L_5 aN bR bP bL bN) := xD_perm (xPermC fun _ x => by simp only [wX, wW, List.count_append]; omega) hD
  refine lv_aload_n hx hb dX4_unlay_23 rfl (lv_at hl 1 rfl) ?_
  refine va_get (D := D) (ci := 4) (C := RX4) (T := TX4) (N := 6) hx hb hts in_X4_unlay_X4 hown hG.1 hP 0 rfl rfl 4 (by decide) (hts _ lk_X4_unlay_37) (fun _ h9 => h9) rfl dX4_unlay_24 ?_
  have hp : xPerm (wX k b ag as ap aq aa ab M N C Gr Pr Pa I Ln Sz dr pR pP pL pN qR qP qL qN R_3 P_4 L_5 aN bR bP bL bN) ((wT k ab bR bP bL bN) ++ ([((b 0, .inr (4, [.ref (ag 0), .ref (b 1), .ref (b 2), .ref (aa 0), .ref (ab 0), .ref (b 3)])) : Nat × va_E)] ++ ([((b 1, .inl (k 5, 4, rfs (fun i => as (2 * i)))) : Nat × va_E)] ++ ([((b 2, .inr (3, [.ref (ap 0), .ref (aq 0)])) : Nat × va_E)] ++ ([((b 3, .inl (k 0, 40, .inl dr)) : Nat × va_E)] ++ (wG k ag M N C Gr Pr Pa ++ (wSS k as I Ln Sz ++ (wT k ap pR pP pL pN ++ (wT k aq qR qP qL qN ++ wT k aa R_3 P_4 L_5 aN))))))))) := (xPermC fun _ x => by simp only [wX, wW, List.count_append]; omega)
  refine xCallV (w := wT k ab bR bP bL bN) (r := [((b 0, .inr (4, [.ref (ag 0), .ref (b 1), .ref (b 2), .ref (aa 0), .ref (ab 0), .ref (b 3)])) : Nat × va_E)] ++ ([((b 1, .inl (k 5, 4, rfs (fun i => as (2 * i)))) : Nat × va_E)] ++ ([((b 2, .inr (3, [.ref (ap 0), .ref (aq 0)])) : Nat × va_E)] ++ ([((b 3, .inl (k 0, 40, .inl dr)) : Nat × va_E)] ++ (wG k ag M N C Gr Pr Pa ++ (wSS k as I Ln Sz ++ (wT k ap pR pP pL pN ++ (wT k aq qR qP qL qN ++ wT k aa R_3 P_4 L_5 aN)))))))) (va_runV (As := []) (rest := []) ⟨hx, hb, hml, hown, hts⟩ (c_X2_empty ab bR bP bL bN hf) (cwV 0 hts gX4_unlay_X2_empty rfl rfl rfl (by decide +kernel) ⟨Nat.le_of_ble_eq_true rfl, Nat.le_of_ble_eq_true rfl⟩) (xPreV hG hP hD hp (ci := 2) rfl (i := 0) rfl) rfl rfl hl.1 rfl (lv_room (Nat.le_of_ble_eq_true rfl)) dX4_unlay_27 ⟨Nat.zero_le _, Nat.zero_le _⟩) hP hD hS hp (fun _ => wT_adr) (fun u H locs hf hP hD hS => ?_)
  obtain ⟨R_6, P_7, L_8⟩ := u
  have hP : va_P D vwCl (wX k b ag as ap aq aa ab M N C Gr Pr Pa I Ln Sz dr pR pP pL pN qR qP qL qN R_3 P_4 L_5 aN R_6 P_7 L_8 bN) H := xP_perm (xPermC fun _ x => by simp only [wX, wW, List.count_append]; omega) hP
  have hD : va_D A (wX k b ag as ap aq aa ab M N C Gr Pr Pa I Ln Sz dr pR pP pL pN qR qP qL qN R_3 P_4 L_5 aN R_6 P_7 L_8 bN) := xD_perm (xPermC fun _ x => by simp only [wX, wW, List.count_append]; omega) hD
  refine lv_iload_n hx hb dX4_unlay_30 rfl (lv_at hl 0 rfl) ?_
  exact W.iret (v := (r_1 + r_2)) hx hb hr (fun t ht hW => ⟨⟨(r_1 + r_2), (R_3, P_4, L_5, R_6, P_7, L_8), rfl, hf, xHp ht hP⟩, hS.F ht⟩) hS.2.2 dX4_unlay_31 hlocks

def p_X4_laidIsAsTold (aR : Int32) (aL : Nat → Int32) (aN : Nat → Nat → Int32) (bR : Int32) (bP : Int32) (bL : Nat → Int32) (bN : Nat → Nat → Int32) (post : Int32 → Prop) : Prop := p_X2_hasShapeOf aL bL (fun r_1 => ((r_1 = 0 → post 0) ∧ (¬ r_1 = 0 → p_X2_isStaircase aR aL (fun r_3 => ((r_3 = 0 → post 0) ∧ (¬ r_3 = 0 → p_X2_rises aR aL aN 0 (fun r_5 => ((r_5 = 0 → post 0) ∧ (¬ r_5 = 0 → p_X2_isBelow aR aL aN 10 (fun r_7 => ((r_7 = 0 → post 0) ∧ (¬ r_7 = 0 → p_X2_rises bR bL bN 1 (fun r_9 => ((r_9 = 0 → post 0) ∧ (¬ r_9 = 0 → p_X2_hasEachOnce bR bP bL bN (fun r_11 => ((r_11 = 0 → post 0) ∧ (¬ r_11 = 0 → post 1))))))))))))))))))
theorem in_X4_laidIsAsTold_X4 : ∀ w ∈ u_ws RX4 TX4 6, w ∈ wsX4_laidIsAsTold := by decide +kernel
theorem lk_X4_laidIsAsTold_33 : Cond.fieldLink RX4 33 "GrowingCorners" "laidP" "LGrowingCorners$Tableau;" ∈ wsX4_laidIsAsTold := by decide +kernel
theorem lk_X4_laidIsAsTold_37 : Cond.fieldLink RX4 37 "GrowingCorners" "laidQ" "LGrowingCorners$Tableau;" ∈ wsX4_laidIsAsTold := by decide +kernel
set_option maxHeartbeats 4000000 in
set_option maxRecDepth 100000 in
theorem c_X4_laidIsAsTold {l : Launch} {D : va_G} {k : Nat → ClassId} (b : Nat → Nat) (ag : Nat → Nat) (as : Nat → Nat) (ap : Nat → Nat) (aq : Nat → Nat) (aa : Nat → Nat) (ab : Nat → Nat) (M : Int32) (N : Int32) (C : Nat → Nat → Int32) (Gr : Nat → Nat → Int32) (Pr : Nat → Nat → Int64) (Pa : Nat → Nat → Int32) (I : Nat → Nat → Int64) (Ln : Nat → Int32) (Sz : Nat → Int32) (dr : Nat → Int32) (pR : Int32) (pP : Int32) (pL : Nat → Int32) (pN : Nat → Nat → Int32) (qR : Int32) (qP : Int32) (qL : Nat → Int32) (qN : Nat → Nat → Int32) (aR : Int32) (aP : Int32) (aL : Nat → Int32) (aN : Nat → Nat → Int32) (bR : Int32) (bP : Int32) (bL : Nat → Int32) (bN : Nat → Nat → Int32) {post : Int32 → Prop} (hf : p_X4_laidIsAsTold aR aL aN bR bP bL bN post) : ctI l yX4_laidIsAsTold wsX4_laidIsAsTold ({ frames := 4, cells := 0, slots := 0, locals := 88 }) D k [.ref (b 0)] (wX k b ag as ap aq aa ab M N C Gr Pr Pa I Ln Sz dr pR pP pL pN qR qP qL qN aR aP aL aN bR bP bL bN) (fun u : Unit => wX k b ag as ap aq aa ab M N C Gr Pr Pa I Ln Sz dr pR pP pL pN qR qP qL qN aR aP aL aN bR bP bL bN) (fun (r : Int32) (u : Unit) => post r) := by
  refine Met.ofW (cc := cX4_laidIsAsTold) (maxL := 1) (ret := (some .boolean)) (by decide) rfl ?_
  intro p e s m args below meth c s₁ B hml hv
  obtain ⟨rfl, hP, hG, hD0⟩ := hv
  have C0 : xM p s m ([.ref (b 0)] : List Value).toArray meth c cX4_laidIsAsTold 1 RX4 (some .boolean) wsX4_laidIsAsTold := ⟨B.exec, B.bytes, B.returns, atoms_spec (ws := wsX4_laidIsAsTold) B.pre, findClass_of_methodNamed B.named, B.notSynchronized, hml⟩
  obtain ⟨hx, hb, hr, hts, hown, hlocks, hml⟩ := id C0
  have hD := xSelf hD0
  have hS : va_S (xIn (wX k b ag as ap aq aa ab M N C Gr Pr Pa I Ln Sz dr pR pP pL pN qR qP qL qN aR aP aL aN bR bP bL bN)) s.heap s.heap [] := va_S.rf
  generalize xIn (wX k b ag as ap aq aa ab M N C Gr Pr Pa I Ln Sz dr pR pP pL pN qR qP qL qN aR aP aL aN bR bP bL bN) = A at hD hS ⊢
  have hl := lv_entry ([.ref (b 0)]) (n := 1) (Nat.le_of_ble_eq_true rfl)
  rw [lg_entry_eq]
  generalize (lg_sl ([.ref (b 0)]) ++ List.replicate (1 - (lg_sl ([.ref (b 0)])).length) Slot.unset).toArray = ls at hl ⊢
  have hl : lv_has ls 1 [(0, .ref (b 0))] := hl
  unfold p_X4_laidIsAsTold at hf
  refine lv_aload_n hx hb dX4_laidIsAsTold_0 rfl (lv_at hl 0 rfl) ?_
  refine va_get (D := D) (ci := 4) (C := RX4) (T := TX4) (N := 6) hx hb hts in_X4_laidIsAsTold_X4 hown hG.1 hP 0 rfl rfl 3 (by decide) (hts _ lk_X4_laidIsAsTold_33) (fun _ h9 => h9) rfl dX4_laidIsAsTold_1 ?_
  refine lv_aload_n hx hb dX4_laidIsAsTold_4 rfl (lv_at hl 0 rfl) ?_
  refine va_get (D := D) (ci := 4) (C := RX4) (T := TX4) (N := 6) hx hb hts in_X4_laidIsAsTold_X4 hown hG.1 hP 0 rfl rfl 4 (by decide) (hts _ lk_X4_laidIsAsTold_37) (fun _ h9 => h9) rfl dX4_laidIsAsTold_5 ?_
  have hp : xPerm (wX k b ag as ap aq aa ab M N C Gr Pr Pa I Ln Sz dr pR pP pL pN qR qP qL qN aR aP aL aN bR bP bL bN) ((wT k aa aR aP aL aN ++ wT k ab bR bP bL bN) ++ ([((b 0, .inr (4, [.ref (ag 0), .ref (b 1), .ref (b 2), .ref (aa 0), .ref (ab 0), .ref (b 3)])) : Nat × va_E)] ++ ([((b 1, .inl (k 5, 4, rfs (fun i => as (2 * i)))) : Nat × va_E)] ++ ([((b 2, .inr (3, [.ref (ap 0), .ref (aq 0)])) : Nat × va_E)] ++ ([((b 3, .inl (k 0, 40, .inl dr)) : Nat × va_E)] ++ (wG k ag M N C Gr Pr Pa ++ (wSS k as I Ln Sz ++ (wT k ap pR pP pL pN ++ wT k aq qR qP qL qN)))))))) := (xPermC fun _ x => by simp only [wX, wW, List.count_append]; omega)
  refine xCallI (w := wT k aa aR aP aL aN ++ wT k ab bR bP bL bN) (r := [((b 0, .inr (4, [.ref (ag 0), .ref (b 1), .ref (b 2), .ref (aa 0), .ref (ab 0), .ref (b 3)])) : Nat × va_E)] ++ ([((b 1, .inl (k 5, 4, rfs (fun i => as (2 * i)))) : Nat × va_E)] ++ ([((b 2, .inr (3, [.ref (ap 0), .ref (aq 0)])) : Nat × va_E)] ++ ([((b 3, .inl (k 0, 40, .inl dr)) : Nat × va_E)] ++ (wG k ag M N C Gr Pr Pa ++ (wSS k as I Ln Sz ++ (wT k ap pR pP pL pN ++ wT k aq qR qP qL qN))))))) (va_runV (As := [.ref (ab 0)]) (rest := []) ⟨hx, hb, hml, hown, hts⟩ (c_X2_hasShapeOf aa ab aR aP aL aN bR bP bL bN hf) (cwV 1 hts gX4_laidIsAsTold_X2_hasShapeOf rfl rfl rfl (by decide +kernel) ⟨Nat.le_of_ble_eq_true rfl, Nat.le_of_ble_eq_true rfl⟩) (xPreV hG hP hD hp (ci := 2) rfl (i := 0) rfl) rfl rfl hl.1 rfl (lv_room (Nat.le_of_ble_eq_true rfl)) dX4_laidIsAsTold_8 ⟨Nat.zero_le _, Nat.zero_le _⟩) hP hD hS hp (fun _ => xAdr2 wT_adr wT_adr) (fun r_1 _ H locs hf hP hD hS => ?_)
  have hP : va_P D vwCl (wX k b ag as ap aq aa ab M N C Gr Pr Pa I Ln Sz dr pR pP pL pN qR qP qL qN aR aP aL aN bR bP bL bN) H := xP_perm (xPermC fun _ x => by simp only [wX, wW, List.count_append]; omega) hP
  have hD : va_D A (wX k b ag as ap aq aa ab M N C Gr Pr Pa I Ln Sz dr pR pP pL pN qR qP qL qN aR aP aL aN bR bP bL bN) := xD_perm (xPermC fun _ x => by simp only [wX, wW, List.count_append]; omega) hD
  refine lv_if_eq (tgt := 72) hx hb dX4_laidIsAsTold_11 (by decide) (fun c_2 => ?_) (fun c_2 => ?_)
  · have hf := hf.1 c_2
    refine lv_iconst (v := 0) hx hb dX4_laidIsAsTold_72 (by decide) ?_
    exact W.zret (v := 0) hx hb hr rfl (fun t ht hW => ⟨⟨(0 : Int32), (), rfl, hf, xHp ht hP⟩, hS.F ht⟩) hS.2.2 dX4_laidIsAsTold_73 hlocks
  · have hf := hf.2 c_2
    refine lv_aload_n hx hb dX4_laidIsAsTold_14 rfl (lv_at hl 0 rfl) ?_
    refine va_get (D := D) (ci := 4) (C := RX4) (T := TX4) (N := 6) hx hb hts in_X4_laidIsAsTold_X4 hown hG.1 hP 0 rfl rfl 3 (by decide) (hts _ lk_X4_laidIsAsTold_33) (fun _ h9 => h9) rfl dX4_laidIsAsTold_15 ?_
    have hp : xPerm (wX k b ag as ap aq aa ab M N C Gr Pr Pa I Ln Sz dr pR pP pL pN qR qP qL qN aR aP aL aN bR bP bL bN) ((wT k aa aR aP aL aN) ++ ([((b 0, .inr (4, [.ref (ag 0), .ref (b 1), .ref (b 2), .ref (aa 0), .ref (ab 0), .ref (b 3)])) : Nat × va_E)] ++ ([((b 1, .inl (k 5, 4, rfs (fun i => as (2 * i)))) : Nat × va_E)] ++ ([((b 2, .inr (3, [.ref (ap 0), .ref (aq 0)])) : Nat × va_E)] ++ ([((b 3, .inl (k 0, 40, .inl dr)) : Nat × va_E)] ++ (wG k ag M N C Gr Pr Pa ++ (wSS k as I Ln Sz ++ (wT k ap pR pP pL pN ++ (wT k aq qR qP qL qN ++ wT k ab bR bP bL bN))))))))) := (xPermC fun _ x => by simp only [wX, wW, List.count_append]; omega)
    refine xCallI (w := wT k aa aR aP aL aN) (r := [((b 0, .inr (4, [.ref (ag 0), .ref (b 1), .ref (b 2), .ref (aa 0), .ref (ab 0), .ref (b 3)])) : Nat × va_E)] ++ ([((b 1, .inl (k 5, 4, rfs (fun i => as (2 * i)))) : Nat × va_E)] ++ ([((b 2, .inr (3, [.ref (ap 0), .ref (aq 0)])) : Nat × va_E)] ++ ([((b 3, .inl (k 0, 40, .inl dr)) : Nat × va_E)] ++ (wG k ag M N C Gr Pr Pa ++ (wSS k as I Ln Sz ++ (wT k ap pR pP pL pN ++ (wT k aq qR qP qL qN ++ wT k ab bR bP bL bN)))))))) (va_runV (As := []) (rest := []) ⟨hx, hb, hml, hown, hts⟩ (c_X2_isStaircase aa aR aP aL aN hf) (cwV 0 hts gX4_laidIsAsTold_X2_isStaircase rfl rfl rfl (by decide +kernel) ⟨Nat.le_of_ble_eq_true rfl, Nat.le_of_ble_eq_true rfl⟩) (xPreV hG hP hD hp (ci := 2) rfl (i := 0) rfl) rfl rfl hl.1 rfl (lv_room (Nat.le_of_ble_eq_true rfl)) dX4_laidIsAsTold_18 ⟨Nat.zero_le _, Nat.zero_le _⟩) hP hD hS hp (fun _ => wT_adr) (fun r_3 _ H locs hf hP hD hS => ?_)
    have hP : va_P D vwCl (wX k b ag as ap aq aa ab M N C Gr Pr Pa I Ln Sz dr pR pP pL pN qR qP qL qN aR aP aL aN bR bP bL bN) H := xP_perm (xPermC fun _ x => by simp only [wX, wW, List.count_append]; omega) hP
    have hD : va_D A (wX k b ag as ap aq aa ab M N C Gr Pr Pa I Ln Sz dr pR pP pL pN qR qP qL qN aR aP aL aN bR bP bL bN) := xD_perm (xPermC fun _ x => by simp only [wX, wW, List.count_append]; omega) hD
    refine lv_if_eq (tgt := 72) hx hb dX4_laidIsAsTold_21 (by decide) (fun c_4 => ?_) (fun c_4 => ?_)
    · have hf := hf.1 c_4
      refine lv_iconst (v := 0) hx hb dX4_laidIsAsTold_72 (by decide) ?_
      exact W.zret (v := 0) hx hb hr rfl (fun t ht hW => ⟨⟨(0 : Int32), (), rfl, hf, xHp ht hP⟩, hS.F ht⟩) hS.2.2 dX4_laidIsAsTold_73 hlocks
    · have hf := hf.2 c_4
      refine lv_aload_n hx hb dX4_laidIsAsTold_24 rfl (lv_at hl 0 rfl) ?_
      refine va_get (D := D) (ci := 4) (C := RX4) (T := TX4) (N := 6) hx hb hts in_X4_laidIsAsTold_X4 hown hG.1 hP 0 rfl rfl 3 (by decide) (hts _ lk_X4_laidIsAsTold_33) (fun _ h9 => h9) rfl dX4_laidIsAsTold_25 ?_
      refine lv_iconst (v := 0) hx hb dX4_laidIsAsTold_28 (by decide) ?_
      have hp : xPerm (wX k b ag as ap aq aa ab M N C Gr Pr Pa I Ln Sz dr pR pP pL pN qR qP qL qN aR aP aL aN bR bP bL bN) ((wT k aa aR aP aL aN) ++ ([((b 0, .inr (4, [.ref (ag 0), .ref (b 1), .ref (b 2), .ref (aa 0), .ref (ab 0), .ref (b 3)])) : Nat × va_E)] ++ ([((b 1, .inl (k 5, 4, rfs (fun i => as (2 * i)))) : Nat × va_E)] ++ ([((b 2, .inr (3, [.ref (ap 0), .ref (aq 0)])) : Nat × va_E)] ++ ([((b 3, .inl (k 0, 40, .inl dr)) : Nat × va_E)] ++ (wG k ag M N C Gr Pr Pa ++ (wSS k as I Ln Sz ++ (wT k ap pR pP pL pN ++ (wT k aq qR qP qL qN ++ wT k ab bR bP bL bN))))))))) := (xPermC fun _ x => by simp only [wX, wW, List.count_append]; omega)
      refine xCallI (w := wT k aa aR aP aL aN) (r := [((b 0, .inr (4, [.ref (ag 0), .ref (b 1), .ref (b 2), .ref (aa 0), .ref (ab 0), .ref (b 3)])) : Nat × va_E)] ++ ([((b 1, .inl (k 5, 4, rfs (fun i => as (2 * i)))) : Nat × va_E)] ++ ([((b 2, .inr (3, [.ref (ap 0), .ref (aq 0)])) : Nat × va_E)] ++ ([((b 3, .inl (k 0, 40, .inl dr)) : Nat × va_E)] ++ (wG k ag M N C Gr Pr Pa ++ (wSS k as I Ln Sz ++ (wT k ap pR pP pL pN ++ (wT k aq qR qP qL qN ++ wT k ab bR bP bL bN)))))))) (va_runV (As := [.int 0]) (rest := []) ⟨hx, hb, hml, hown, hts⟩ (c_X2_rises aa aR aP aL aN 0 hf) (cwV 1 hts gX4_laidIsAsTold_X2_rises rfl rfl rfl (by decide +kernel) ⟨Nat.le_of_ble_eq_true rfl, Nat.le_of_ble_eq_true rfl⟩) (xPreV hG hP hD hp (ci := 2) rfl (i := 0) rfl) rfl rfl hl.1 rfl (lv_room (Nat.le_of_ble_eq_true rfl)) dX4_laidIsAsTold_29 ⟨Nat.zero_le _, Nat.zero_le _⟩) hP hD hS hp (fun _ => wT_adr) (fun r_5 _ H locs hf hP hD hS => ?_)
      have hP : va_P D vwCl (wX k b ag as ap aq aa ab M N C Gr Pr Pa I Ln Sz dr pR pP pL pN qR qP qL qN aR aP aL aN bR bP bL bN) H := xP_perm (xPermC fun _ x => by simp only [wX, wW, List.count_append]; omega) hP
      have hD : va_D A (wX k b ag as ap aq aa ab M N C Gr Pr Pa I Ln Sz dr pR pP pL pN qR qP qL qN aR aP aL aN bR bP bL bN) := xD_perm (xPermC fun _ x => by simp only [wX, wW, List.count_append]; omega) hD
      refine lv_if_eq (tgt := 72) hx hb dX4_laidIsAsTold_32 (by decide) (fun c_6 => ?_) (fun c_6 => ?_)
      · have hf := hf.1 c_6
        refine lv_iconst (v := 0) hx hb dX4_laidIsAsTold_72 (by decide) ?_
        exact W.zret (v := 0) hx hb hr rfl (fun t ht hW => ⟨⟨(0 : Int32), (), rfl, hf, xHp ht hP⟩, hS.F ht⟩) hS.2.2 dX4_laidIsAsTold_73 hlocks
      · have hf := hf.2 c_6
        refine lv_aload_n hx hb dX4_laidIsAsTold_35 rfl (lv_at hl 0 rfl) ?_
        refine va_get (D := D) (ci := 4) (C := RX4) (T := TX4) (N := 6) hx hb hts in_X4_laidIsAsTold_X4 hown hG.1 hP 0 rfl rfl 3 (by decide) (hts _ lk_X4_laidIsAsTold_33) (fun _ h9 => h9) rfl dX4_laidIsAsTold_36 ?_
        refine lv_bipush (v := 10) hx hb dX4_laidIsAsTold_39 (by decide) ?_
        have hp : xPerm (wX k b ag as ap aq aa ab M N C Gr Pr Pa I Ln Sz dr pR pP pL pN qR qP qL qN aR aP aL aN bR bP bL bN) ((wT k aa aR aP aL aN) ++ ([((b 0, .inr (4, [.ref (ag 0), .ref (b 1), .ref (b 2), .ref (aa 0), .ref (ab 0), .ref (b 3)])) : Nat × va_E)] ++ ([((b 1, .inl (k 5, 4, rfs (fun i => as (2 * i)))) : Nat × va_E)] ++ ([((b 2, .inr (3, [.ref (ap 0), .ref (aq 0)])) : Nat × va_E)] ++ ([((b 3, .inl (k 0, 40, .inl dr)) : Nat × va_E)] ++ (wG k ag M N C Gr Pr Pa ++ (wSS k as I Ln Sz ++ (wT k ap pR pP pL pN ++ (wT k aq qR qP qL qN ++ wT k ab bR bP bL bN))))))))) := (xPermC fun _ x => by simp only [wX, wW, List.count_append]; omega)
        refine xCallI (w := wT k aa aR aP aL aN) (r := [((b 0, .inr (4, [.ref (ag 0), .ref (b 1), .ref (b 2), .ref (aa 0), .ref (ab 0), .ref (b 3)])) : Nat × va_E)] ++ ([((b 1, .inl (k 5, 4, rfs (fun i => as (2 * i)))) : Nat × va_E)] ++ ([((b 2, .inr (3, [.ref (ap 0), .ref (aq 0)])) : Nat × va_E)] ++ ([((b 3, .inl (k 0, 40, .inl dr)) : Nat × va_E)] ++ (wG k ag M N C Gr Pr Pa ++ (wSS k as I Ln Sz ++ (wT k ap pR pP pL pN ++ (wT k aq qR qP qL qN ++ wT k ab bR bP bL bN)))))))) (va_runV (As := [.int 10]) (rest := []) ⟨hx, hb, hml, hown, hts⟩ (c_X2_isBelow aa aR aP aL aN 10 hf) (cwV 1 hts gX4_laidIsAsTold_X2_isBelow rfl rfl rfl (by decide +kernel) ⟨Nat.le_of_ble_eq_true rfl, Nat.le_of_ble_eq_true rfl⟩) (xPreV hG hP hD hp (ci := 2) rfl (i := 0) rfl) rfl rfl hl.1 rfl (lv_room (Nat.le_of_ble_eq_true rfl)) dX4_laidIsAsTold_41 ⟨Nat.zero_le _, Nat.zero_le _⟩) hP hD hS hp (fun _ => wT_adr) (fun r_7 _ H locs hf hP hD hS => ?_)
        have hP : va_P D vwCl (wX k b ag as ap aq aa ab M N C Gr Pr Pa I Ln Sz dr pR pP pL pN qR qP qL qN aR aP aL aN bR bP bL bN) H := xP_perm (xPermC fun _ x => by simp only [wX, wW, List.count_append]; omega) hP
        have hD : va_D A (wX k b ag as ap aq aa ab M N C Gr Pr Pa I Ln Sz dr pR pP pL pN qR qP qL qN aR aP aL aN bR bP bL bN) := xD_perm (xPermC fun _ x => by simp only [wX, wW, List.count_append]; omega) hD
        refine lv_if_eq (tgt := 72) hx hb dX4_laidIsAsTold_44 (by decide) (fun c_8 => ?_) (fun c_8 => ?_)
        · have hf := hf.1 c_8
          refine lv_iconst (v := 0) hx hb dX4_laidIsAsTold_72 (by decide) ?_
          exact W.zret (v := 0) hx hb hr rfl (fun t ht hW => ⟨⟨(0 : Int32), (), rfl, hf, xHp ht hP⟩, hS.F ht⟩) hS.2.2 dX4_laidIsAsTold_73 hlocks
        · have hf := hf.2 c_8
          refine lv_aload_n hx hb dX4_laidIsAsTold_47 rfl (lv_at hl 0 rfl) ?_
          refine va_get (D := D) (ci := 4) (C := RX4) (T := TX4) (N := 6) hx hb hts in_X4_laidIsAsTold_X4 hown hG.1 hP 0 rfl rfl 4 (by decide) (hts _ lk_X4_laidIsAsTold_37) (fun _ h9 => h9) rfl dX4_laidIsAsTold_48 ?_
          refine lv_iconst (v := 1) hx hb dX4_laidIsAsTold_51 (by decide) ?_
          have hp : xPerm (wX k b ag as ap aq aa ab M N C Gr Pr Pa I Ln Sz dr pR pP pL pN qR qP qL qN aR aP aL aN bR bP bL bN) ((wT k ab bR bP bL bN) ++ ([((b 0, .inr (4, [.ref (ag 0), .ref (b 1), .ref (b 2), .ref (aa 0), .ref (ab 0), .ref (b 3)])) : Nat × va_E)] ++ ([((b 1, .inl (k 5, 4, rfs (fun i => as (2 * i)))) : Nat × va_E)] ++ ([((b 2, .inr (3, [.ref (ap 0), .ref (aq 0)])) : Nat × va_E)] ++ ([((b 3, .inl (k 0, 40, .inl dr)) : Nat × va_E)] ++ (wG k ag M N C Gr Pr Pa ++ (wSS k as I Ln Sz ++ (wT k ap pR pP pL pN ++ (wT k aq qR qP qL qN ++ wT k aa aR aP aL aN))))))))) := (xPermC fun _ x => by simp only [wX, wW, List.count_append]; omega)
          refine xCallI (w := wT k ab bR bP bL bN) (r := [((b 0, .inr (4, [.ref (ag 0), .ref (b 1), .ref (b 2), .ref (aa 0), .ref (ab 0), .ref (b 3)])) : Nat × va_E)] ++ ([((b 1, .inl (k 5, 4, rfs (fun i => as (2 * i)))) : Nat × va_E)] ++ ([((b 2, .inr (3, [.ref (ap 0), .ref (aq 0)])) : Nat × va_E)] ++ ([((b 3, .inl (k 0, 40, .inl dr)) : Nat × va_E)] ++ (wG k ag M N C Gr Pr Pa ++ (wSS k as I Ln Sz ++ (wT k ap pR pP pL pN ++ (wT k aq qR qP qL qN ++ wT k aa aR aP aL aN)))))))) (va_runV (As := [.int 1]) (rest := []) ⟨hx, hb, hml, hown, hts⟩ (c_X2_rises ab bR bP bL bN 1 hf) (cwV 1 hts gX4_laidIsAsTold_X2_rises rfl rfl rfl (by decide +kernel) ⟨Nat.le_of_ble_eq_true rfl, Nat.le_of_ble_eq_true rfl⟩) (xPreV hG hP hD hp (ci := 2) rfl (i := 0) rfl) rfl rfl hl.1 rfl (lv_room (Nat.le_of_ble_eq_true rfl)) dX4_laidIsAsTold_52 ⟨Nat.zero_le _, Nat.zero_le _⟩) hP hD hS hp (fun _ => wT_adr) (fun r_9 _ H locs hf hP hD hS => ?_)
          have hP : va_P D vwCl (wX k b ag as ap aq aa ab M N C Gr Pr Pa I Ln Sz dr pR pP pL pN qR qP qL qN aR aP aL aN bR bP bL bN) H := xP_perm (xPermC fun _ x => by simp only [wX, wW, List.count_append]; omega) hP
          have hD : va_D A (wX k b ag as ap aq aa ab M N C Gr Pr Pa I Ln Sz dr pR pP pL pN qR qP qL qN aR aP aL aN bR bP bL bN) := xD_perm (xPermC fun _ x => by simp only [wX, wW, List.count_append]; omega) hD
          refine lv_if_eq (tgt := 72) hx hb dX4_laidIsAsTold_55 (by decide) (fun c_10 => ?_) (fun c_10 => ?_)
          · have hf := hf.1 c_10
            refine lv_iconst (v := 0) hx hb dX4_laidIsAsTold_72 (by decide) ?_
            exact W.zret (v := 0) hx hb hr rfl (fun t ht hW => ⟨⟨(0 : Int32), (), rfl, hf, xHp ht hP⟩, hS.F ht⟩) hS.2.2 dX4_laidIsAsTold_73 hlocks
          · have hf := hf.2 c_10
            refine lv_aload_n hx hb dX4_laidIsAsTold_58 rfl (lv_at hl 0 rfl) ?_
            refine va_get (D := D) (ci := 4) (C := RX4) (T := TX4) (N := 6) hx hb hts in_X4_laidIsAsTold_X4 hown hG.1 hP 0 rfl rfl 4 (by decide) (hts _ lk_X4_laidIsAsTold_37) (fun _ h9 => h9) rfl dX4_laidIsAsTold_59 ?_
            have hp : xPerm (wX k b ag as ap aq aa ab M N C Gr Pr Pa I Ln Sz dr pR pP pL pN qR qP qL qN aR aP aL aN bR bP bL bN) ((wT k ab bR bP bL bN) ++ ([((b 0, .inr (4, [.ref (ag 0), .ref (b 1), .ref (b 2), .ref (aa 0), .ref (ab 0), .ref (b 3)])) : Nat × va_E)] ++ ([((b 1, .inl (k 5, 4, rfs (fun i => as (2 * i)))) : Nat × va_E)] ++ ([((b 2, .inr (3, [.ref (ap 0), .ref (aq 0)])) : Nat × va_E)] ++ ([((b 3, .inl (k 0, 40, .inl dr)) : Nat × va_E)] ++ (wG k ag M N C Gr Pr Pa ++ (wSS k as I Ln Sz ++ (wT k ap pR pP pL pN ++ (wT k aq qR qP qL qN ++ wT k aa aR aP aL aN))))))))) := (xPermC fun _ x => by simp only [wX, wW, List.count_append]; omega)
            refine xCallI (w := wT k ab bR bP bL bN) (r := [((b 0, .inr (4, [.ref (ag 0), .ref (b 1), .ref (b 2), .ref (aa 0), .ref (ab 0), .ref (b 3)])) : Nat × va_E)] ++ ([((b 1, .inl (k 5, 4, rfs (fun i => as (2 * i)))) : Nat × va_E)] ++ ([((b 2, .inr (3, [.ref (ap 0), .ref (aq 0)])) : Nat × va_E)] ++ ([((b 3, .inl (k 0, 40, .inl dr)) : Nat × va_E)] ++ (wG k ag M N C Gr Pr Pa ++ (wSS k as I Ln Sz ++ (wT k ap pR pP pL pN ++ (wT k aq qR qP qL qN ++ wT k aa aR aP aL aN)))))))) (va_runV (As := []) (rest := []) ⟨hx, hb, hml, hown, hts⟩ (c_X2_hasEachOnce ab bR bP bL bN hf) (cwV 0 hts gX4_laidIsAsTold_X2_hasEachOnce rfl rfl rfl (by decide +kernel) ⟨Nat.le_of_ble_eq_true rfl, Nat.le_of_ble_eq_true rfl⟩) (xPreV hG hP hD hp (ci := 2) rfl (i := 0) rfl) rfl rfl hl.1 rfl (lv_room (Nat.le_of_ble_eq_true rfl)) dX4_laidIsAsTold_62 ⟨Nat.zero_le _, Nat.zero_le _⟩) hP hD hS hp (fun _ => wT_adr) (fun r_11 _ H locs hf hP hD hS => ?_)
            have hP : va_P D vwCl (wX k b ag as ap aq aa ab M N C Gr Pr Pa I Ln Sz dr pR pP pL pN qR qP qL qN aR aP aL aN bR bP bL bN) H := xP_perm (xPermC fun _ x => by simp only [wX, wW, List.count_append]; omega) hP
            have hD : va_D A (wX k b ag as ap aq aa ab M N C Gr Pr Pa I Ln Sz dr pR pP pL pN qR qP qL qN aR aP aL aN bR bP bL bN) := xD_perm (xPermC fun _ x => by simp only [wX, wW, List.count_append]; omega) hD
            refine lv_if_eq (tgt := 72) hx hb dX4_laidIsAsTold_65 (by decide) (fun c_12 => ?_) (fun c_12 => ?_)
            · have hf := hf.1 c_12
              refine lv_iconst (v := 0) hx hb dX4_laidIsAsTold_72 (by decide) ?_
              exact W.zret (v := 0) hx hb hr rfl (fun t ht hW => ⟨⟨(0 : Int32), (), rfl, hf, xHp ht hP⟩, hS.F ht⟩) hS.2.2 dX4_laidIsAsTold_73 hlocks
            · have hf := hf.2 c_12
              refine lv_iconst (v := 1) hx hb dX4_laidIsAsTold_68 (by decide) ?_
              refine lv_goto (tgt := 73) hx hb dX4_laidIsAsTold_69 (by decide) ?_
              exact W.zret (v := 1) hx hb hr rfl (fun t ht hW => ⟨⟨(1 : Int32), (), rfl, hf, xHp ht hP⟩, hS.F ht⟩) hS.2.2 dX4_laidIsAsTold_73 hlocks

def p_X4_readLaidIntoDraft_2 (bN : Nat → Nat → Int32) (x1 : Int32) (post : (Nat → Int32) → Int32 → Int32 → (Nat → Int32) → (Nat → Nat → Int32) → Int32 → Int32 → (Nat → Int32) → Prop) : Nat → (Nat → Int32) → Int32 → Int32 → (Nat → Int32) → (Nat → Nat → Int32) → Int32 → Int32 → (Nat → Int32) → Int32 → Prop
  | 0, _, _, _, _, _, _, _, _, _ => False
  | n + 1, dr, aR, aP, aL, aN, bR, bP, bL, x2 => ((x2 < 1 → post dr aR aP aL aN bR bP bL) ∧ (¬ x2 < 1 → p_X2_rowEndingIn bR bL bN x2 (fun r_2 => p_X2_takeLast bR bP bL bN r_2 (fun r_6 R_3 P_4 L_5 => p_X2_takeOut aR aP aL aN r_2 (fun r_11 R_7 P_8 L_9 N_10 => (vp_in (x2 - 1) 40 ∧ p_X4_readLaidIntoDraft_2 bN x1 post n (upd dr ((x2 - 1).toNatClampNeg) r_11) R_7 P_8 L_9 N_10 R_3 P_4 L_5 (x2 + (-1))))))))
def p_X4_readLaidIntoDraft (dr : Nat → Int32) (aR : Int32) (aP : Int32) (aL : Nat → Int32) (aN : Nat → Nat → Int32) (bR : Int32) (bP : Int32) (bL : Nat → Int32) (bN : Nat → Nat → Int32) (x1 : Int32) (post : (Nat → Int32) → Int32 → Int32 → (Nat → Int32) → (Nat → Nat → Int32) → Int32 → Int32 → (Nat → Int32) → Prop) : Prop := (∃ n_13, p_X4_readLaidIntoDraft_2 bN x1 post n_13 dr aR aP aL aN bR bP bL x1)
theorem in_X4_readLaidIntoDraft_X4 : ∀ w ∈ u_ws RX4 TX4 6, w ∈ wsX4_readLaidIntoDraft := by decide +kernel
theorem lk_X4_readLaidIntoDraft_33 : Cond.fieldLink RX4 33 "GrowingCorners" "laidP" "LGrowingCorners$Tableau;" ∈ wsX4_readLaidIntoDraft := by decide +kernel
theorem lk_X4_readLaidIntoDraft_37 : Cond.fieldLink RX4 37 "GrowingCorners" "laidQ" "LGrowingCorners$Tableau;" ∈ wsX4_readLaidIntoDraft := by decide +kernel
theorem lk_X4_readLaidIntoDraft_40 : Cond.fieldLink RX4 40 "GrowingCorners" "draft" "[I" ∈ wsX4_readLaidIntoDraft := by decide +kernel
set_option maxHeartbeats 4000000 in
set_option maxRecDepth 100000 in
theorem k_X4_readLaidIntoDraft_2 {p : Program} {l : Launch} {e : Env} {s : State} {m : MethodId} {args : Array Value} {below : List Frame} {meth : Method} {c : Code} {A : Nat → Prop} {D : va_G} {k : Nat → ClassId} {b : Nat → Nat} {ag : Nat → Nat} {as : Nat → Nat} {ap : Nat → Nat} {aq : Nat → Nat} {aa : Nat → Nat} {ab : Nat → Nat} {M : Int32} {N : Int32} {C : Nat → Nat → Int32} {Gr : Nat → Nat → Int32} {Pr : Nat → Nat → Int64} {Pa : Nat → Nat → Int32} {I : Nat → Nat → Int64} {Ln : Nat → Int32} {Sz : Nat → Int32} {pR : Int32} {pP : Int32} {pL : Nat → Int32} {pN : Nat → Nat → Int32} {qR : Int32} {qP : Int32} {qL : Nat → Int32} {qN : Nat → Nat → Int32} {bN : Nat → Nat → Int32} {x1 : Int32} (C0 : xM p s m args meth c cX4_readLaidIntoDraft 4 RX4 none wsX4_readLaidIntoDraft) (hG : xG D k s) {post : (Nat → Int32) → Int32 → Int32 → (Nat → Int32) → (Nat → Nat → Int32) → Int32 → Int32 → (Nat → Int32) → Prop} : ∀ (n : Nat) (dr : Nat → Int32) (aR : Int32) (aP : Int32) (aL : Nat → Int32) (aN : Nat → Nat → Int32) (bR : Int32) (bP : Int32) (bL : Nat → Int32) (x2 : Int32) (H : Heap) (locs : List Loc) (ls : Array Slot), p_X4_readLaidIntoDraft_2 bN x1 post n dr aR aP aL aN bR bP bL x2 → va_P D vwCl (wX k b ag as ap aq aa ab M N C Gr Pr Pa I Ln Sz dr pR pP pL pN qR qP qL qN aR aP aL aN bR bP bL bN) H → va_D A (wX k b ag as ap aq aa ab M N C Gr Pr Pa I Ln Sz dr pR pP pL pN qR qP qL qN aR aP aL aN bR bP bL bN) → va_S A s.heap H locs → lv_has ls 4 [(0, .ref (b 0)), (2, .int x2)] → W p l e ({ frames := 4, cells := 0, slots := 0, locals := 90 }) s m args below meth c H locs 0 0 (MQ below (va_Qv (fun (u : (Nat → Int32) × Int32 × Int32 × (Nat → Int32) × (Nat → Nat → Int32) × Int32 × Int32 × (Nat → Int32)) => post u.1 u.2.1 u.2.2.1 u.2.2.2.1 u.2.2.2.2.1 u.2.2.2.2.2.1 u.2.2.2.2.2.2.1 u.2.2.2.2.2.2.2) (fun u t => va_P D vwCl (wX k b ag as ap aq aa ab M N C Gr Pr Pa I Ln Sz (u.1) pR pP pL pN qR qP qL qN (u.2.1) (u.2.2.1) (u.2.2.2.1) (u.2.2.2.2.1) (u.2.2.2.2.2.1) (u.2.2.2.2.2.2.1) (u.2.2.2.2.2.2.2) bN) t.heap) A) args s 0 0 A) (F0 m 2 ls []) := by
  obtain ⟨hx, hb, hr, hts, hown, hlocks, hml⟩ := id C0
  intro n
  induction n with
  | zero =>
    intro dr aR aP aL aN bR bP bL x2 H locs ls hf
    exact False.elim hf
  | succ n ih =>
    intro dr aR aP aL aN bR bP bL x2 H locs ls hf hP hD hS hl
    unfold p_X4_readLaidIntoDraft_2 at hf
    refine lv_iload_n hx hb dX4_readLaidIntoDraft_2 rfl (lv_at hl 1 rfl) ?_
    refine lv_iconst (v := 1) hx hb dX4_readLaidIntoDraft_3 (by decide) ?_
    refine lv_icmp_lt (tgt := 47) hx hb dX4_readLaidIntoDraft_4 (by decide) (fun c_1 => ?_) (fun c_1 => ?_)
    · have hf := hf.1 c_1
      exact W.vret hx hb hr (fun t ht hW => ⟨⟨(dr, aR, aP, aL, aN, bR, bP, bL), rfl, hf, xHp ht hP⟩, hS.F ht⟩) hS.2.2 dX4_readLaidIntoDraft_47 hlocks
    · have hf := hf.2 c_1
      refine lv_aload_n hx hb dX4_readLaidIntoDraft_7 rfl (lv_at hl 0 rfl) ?_
      refine va_get (D := D) (ci := 4) (C := RX4) (T := TX4) (N := 6) hx hb hts in_X4_readLaidIntoDraft_X4 hown hG.1 hP 0 rfl rfl 4 (by decide) (hts _ lk_X4_readLaidIntoDraft_37) (fun _ h9 => h9) rfl dX4_readLaidIntoDraft_8 ?_
      refine lv_iload_n hx hb dX4_readLaidIntoDraft_11 rfl (lv_at hl 1 rfl) ?_
      have hp : xPerm (wX k b ag as ap aq aa ab M N C Gr Pr Pa I Ln Sz dr pR pP pL pN qR qP qL qN aR aP aL aN bR bP bL bN) ((wT k ab bR bP bL bN) ++ ([((b 0, .inr (4, [.ref (ag 0), .ref (b 1), .ref (b 2), .ref (aa 0), .ref (ab 0), .ref (b 3)])) : Nat × va_E)] ++ ([((b 1, .inl (k 5, 4, rfs (fun i => as (2 * i)))) : Nat × va_E)] ++ ([((b 2, .inr (3, [.ref (ap 0), .ref (aq 0)])) : Nat × va_E)] ++ ([((b 3, .inl (k 0, 40, .inl dr)) : Nat × va_E)] ++ (wG k ag M N C Gr Pr Pa ++ (wSS k as I Ln Sz ++ (wT k ap pR pP pL pN ++ (wT k aq qR qP qL qN ++ wT k aa aR aP aL aN))))))))) := (xPermC fun _ x => by simp only [wX, wW, List.count_append]; omega)
      refine xCallI (w := wT k ab bR bP bL bN) (r := [((b 0, .inr (4, [.ref (ag 0), .ref (b 1), .ref (b 2), .ref (aa 0), .ref (ab 0), .ref (b 3)])) : Nat × va_E)] ++ ([((b 1, .inl (k 5, 4, rfs (fun i => as (2 * i)))) : Nat × va_E)] ++ ([((b 2, .inr (3, [.ref (ap 0), .ref (aq 0)])) : Nat × va_E)] ++ ([((b 3, .inl (k 0, 40, .inl dr)) : Nat × va_E)] ++ (wG k ag M N C Gr Pr Pa ++ (wSS k as I Ln Sz ++ (wT k ap pR pP pL pN ++ (wT k aq qR qP qL qN ++ wT k aa aR aP aL aN)))))))) (va_runV (As := [.int x2]) (rest := []) ⟨hx, hb, hml, hown, hts⟩ (c_X2_rowEndingIn ab bR bP bL bN x2 hf) (cwV 1 hts gX4_readLaidIntoDraft_X2_rowEndingIn rfl rfl rfl (by decide +kernel) ⟨Nat.le_of_ble_eq_true rfl, Nat.le_of_ble_eq_true rfl⟩) (xPreV hG hP hD hp (ci := 2) rfl (i := 0) rfl) rfl rfl hl.1 rfl (lv_room (Nat.le_of_ble_eq_true rfl)) dX4_readLaidIntoDraft_12 ⟨Nat.zero_le _, Nat.zero_le _⟩) hP hD hS hp (fun _ => wT_adr) (fun r_2 _ H locs hf hP hD hS => ?_)
      have hP : va_P D vwCl (wX k b ag as ap aq aa ab M N C Gr Pr Pa I Ln Sz dr pR pP pL pN qR qP qL qN aR aP aL aN bR bP bL bN) H := xP_perm (xPermC fun _ x => by simp only [wX, wW, List.count_append]; omega) hP
      have hD : va_D A (wX k b ag as ap aq aa ab M N C Gr Pr Pa I Ln Sz dr pR pP pL pN qR qP qL qN aR aP aL aN bR bP bL bN) := xD_perm (xPermC fun _ x => by simp only [wX, wW, List.count_append]; omega) hD
      refine lv_istore_n (lv' := [(3, .int r_2), (0, .ref (b 0)), (2, .int x2)]) hx hb dX4_readLaidIntoDraft_15 rfl hl (by decide) rfl (fun ls hl => ?_)
      refine lv_aload_n hx hb dX4_readLaidIntoDraft_16 rfl (lv_at hl 1 rfl) ?_
      refine va_get (D := D) (ci := 4) (C := RX4) (T := TX4) (N := 6) hx hb hts in_X4_readLaidIntoDraft_X4 hown hG.1 hP 0 rfl rfl 4 (by decide) (hts _ lk_X4_readLaidIntoDraft_37) (fun _ h9 => h9) rfl dX4_readLaidIntoDraft_17 ?_
      refine lv_iload_n hx hb dX4_readLaidIntoDraft_20 rfl (lv_at hl 0 rfl) ?_
      have hp : xPerm (wX k b ag as ap aq aa ab M N C Gr Pr Pa I Ln Sz dr pR pP pL pN qR qP qL qN aR aP aL aN bR bP bL bN) ((wT k ab bR bP bL bN) ++ ([((b 0, .inr (4, [.ref (ag 0), .ref (b 1), .ref (b 2), .ref (aa 0), .ref (ab 0), .ref (b 3)])) : Nat × va_E)] ++ ([((b 1, .inl (k 5, 4, rfs (fun i => as (2 * i)))) : Nat × va_E)] ++ ([((b 2, .inr (3, [.ref (ap 0), .ref (aq 0)])) : Nat × va_E)] ++ ([((b 3, .inl (k 0, 40, .inl dr)) : Nat × va_E)] ++ (wG k ag M N C Gr Pr Pa ++ (wSS k as I Ln Sz ++ (wT k ap pR pP pL pN ++ (wT k aq qR qP qL qN ++ wT k aa aR aP aL aN))))))))) := (xPermC fun _ x => by simp only [wX, wW, List.count_append]; omega)
      refine xCallI (w := wT k ab bR bP bL bN) (r := [((b 0, .inr (4, [.ref (ag 0), .ref (b 1), .ref (b 2), .ref (aa 0), .ref (ab 0), .ref (b 3)])) : Nat × va_E)] ++ ([((b 1, .inl (k 5, 4, rfs (fun i => as (2 * i)))) : Nat × va_E)] ++ ([((b 2, .inr (3, [.ref (ap 0), .ref (aq 0)])) : Nat × va_E)] ++ ([((b 3, .inl (k 0, 40, .inl dr)) : Nat × va_E)] ++ (wG k ag M N C Gr Pr Pa ++ (wSS k as I Ln Sz ++ (wT k ap pR pP pL pN ++ (wT k aq qR qP qL qN ++ wT k aa aR aP aL aN)))))))) (va_runV (As := [.int r_2]) (rest := []) ⟨hx, hb, hml, hown, hts⟩ (c_X2_takeLast ab bR bP bL bN r_2 hf) (cwV 1 hts gX4_readLaidIntoDraft_X2_takeLast rfl rfl rfl (by decide +kernel) ⟨Nat.le_of_ble_eq_true rfl, Nat.le_of_ble_eq_true rfl⟩) (xPreV hG hP hD hp (ci := 2) rfl (i := 0) rfl) rfl rfl hl.1 rfl (lv_room (Nat.le_of_ble_eq_true rfl)) dX4_readLaidIntoDraft_21 ⟨Nat.zero_le _, Nat.zero_le _⟩) hP hD hS hp (fun _ => wT_adr) (fun r_6 u H locs hf hP hD hS => ?_)
      obtain ⟨R_3, P_4, L_5⟩ := u
      have hP : va_P D vwCl (wX k b ag as ap aq aa ab M N C Gr Pr Pa I Ln Sz dr pR pP pL pN qR qP qL qN aR aP aL aN R_3 P_4 L_5 bN) H := xP_perm (xPermC fun _ x => by simp only [wX, wW, List.count_append]; omega) hP
      have hD : va_D A (wX k b ag as ap aq aa ab M N C Gr Pr Pa I Ln Sz dr pR pP pL pN qR qP qL qN aR aP aL aN R_3 P_4 L_5 bN) := xD_perm (xPermC fun _ x => by simp only [wX, wW, List.count_append]; omega) hD
      refine lv_pop hx hb dX4_readLaidIntoDraft_24 rfl ?_
      refine lv_aload_n hx hb dX4_readLaidIntoDraft_25 rfl (lv_at hl 1 rfl) ?_
      refine va_get (D := D) (ci := 4) (C := RX4) (T := TX4) (N := 6) hx hb hts in_X4_readLaidIntoDraft_X4 hown hG.1 hP 0 rfl rfl 5 (by decide) (hts _ lk_X4_readLaidIntoDraft_40) (fun _ h9 => h9) rfl dX4_readLaidIntoDraft_26 ?_
      refine lv_iload_n hx hb dX4_readLaidIntoDraft_29 rfl (lv_at hl 2 rfl) ?_
      refine lv_iconst (v := 1) hx hb dX4_readLaidIntoDraft_30 (by decide) ?_
      refine lv_isub hx hb dX4_readLaidIntoDraft_31 ?_
      refine lv_aload_n hx hb dX4_readLaidIntoDraft_32 rfl (lv_at hl 1 rfl) ?_
      refine va_get (D := D) (ci := 4) (C := RX4) (T := TX4) (N := 6) hx hb hts in_X4_readLaidIntoDraft_X4 hown hG.1 hP 0 rfl rfl 3 (by decide) (hts _ lk_X4_readLaidIntoDraft_33) (fun _ h9 => h9) rfl dX4_readLaidIntoDraft_33 ?_
      refine lv_iload_n hx hb dX4_readLaidIntoDraft_36 rfl (lv_at hl 0 rfl) ?_
      have hp : xPerm (wX k b ag as ap aq aa ab M N C Gr Pr Pa I Ln Sz dr pR pP pL pN qR qP qL qN aR aP aL aN R_3 P_4 L_5 bN) ((wT k aa aR aP aL aN) ++ ([((b 0, .inr (4, [.ref (ag 0), .ref (b 1), .ref (b 2), .ref (aa 0), .ref (ab 0), .ref (b 3)])) : Nat × va_E)] ++ ([((b 1, .inl (k 5, 4, rfs (fun i => as (2 * i)))) : Nat × va_E)] ++ ([((b 2, .inr (3, [.ref (ap 0), .ref (aq 0)])) : Nat × va_E)] ++ ([((b 3, .inl (k 0, 40, .inl dr)) : Nat × va_E)] ++ (wG k ag M N C Gr Pr Pa ++ (wSS k as I Ln Sz ++ (wT k ap pR pP pL pN ++ (wT k aq qR qP qL qN ++ wT k ab R_3 P_4 L_5 bN))))))))) := (xPermC fun _ x => by simp only [wX, wW, List.count_append]; omega)
      refine xCallI (w := wT k aa aR aP aL aN) (r := [((b 0, .inr (4, [.ref (ag 0), .ref (b 1), .ref (b 2), .ref (aa 0), .ref (ab 0), .ref (b 3)])) : Nat × va_E)] ++ ([((b 1, .inl (k 5, 4, rfs (fun i => as (2 * i)))) : Nat × va_E)] ++ ([((b 2, .inr (3, [.ref (ap 0), .ref (aq 0)])) : Nat × va_E)] ++ ([((b 3, .inl (k 0, 40, .inl dr)) : Nat × va_E)] ++ (wG k ag M N C Gr Pr Pa ++ (wSS k as I Ln Sz ++ (wT k ap pR pP pL pN ++ (wT k aq qR qP qL qN ++ wT k ab R_3 P_4 L_5 bN)))))))) (va_runV (As := [.int r_2]) (rest := [.int (x2 - 1), .ref (b 3)]) ⟨hx, hb, hml, hown, hts⟩ (c_X2_takeOut aa aR aP aL aN r_2 hf) (cwV 1 hts gX4_readLaidIntoDraft_X2_takeOut rfl rfl rfl (by decide +kernel) ⟨Nat.le_of_ble_eq_true rfl, Nat.le_of_ble_eq_true rfl⟩) (xPreV hG hP hD hp (ci := 2) rfl (i := 0) rfl) rfl rfl hl.1 rfl (lv_room (Nat.le_of_ble_eq_true rfl)) dX4_readLaidIntoDraft_37 ⟨Nat.zero_le _, Nat.zero_le _⟩) hP hD hS hp (fun _ => wT_adr) (fun r_11 u H locs hf hP hD hS => ?_)
      obtain ⟨R_7, P_8, L_9, N_10⟩ := u
      have hP : va_P D vwCl (wX k b ag as ap aq aa ab M N C Gr Pr Pa I Ln Sz dr pR pP pL pN qR qP qL qN R_7 P_8 L_9 N_10 R_3 P_4 L_5 bN) H := xP_perm (xPermC fun _ x => by simp only [wX, wW, List.count_append]; omega) hP
      have hD : va_D A (wX k b ag as ap aq aa ab M N C Gr Pr Pa I Ln Sz dr pR pP pL pN qR qP qL qN R_7 P_8 L_9 N_10 R_3 P_4 L_5 bN) := xD_perm (xPermC fun _ x => by simp only [wX, wW, List.count_append]; omega) hD
      obtain ⟨h_12, hf⟩ := hf
      refine va_iast hx hb hG.1 hP hD hS 3 0 rfl rfl h_12 dX4_readLaidIntoDraft_40 (fun H locs hP hD hS => ?_)
      have hP : va_P D vwCl (wX k b ag as ap aq aa ab M N C Gr Pr Pa I Ln Sz (upd dr ((x2 - 1).toNatClampNeg) r_11) pR pP pL pN qR qP qL qN R_7 P_8 L_9 N_10 R_3 P_4 L_5 bN) H := hP
      have hD : va_D A (wX k b ag as ap aq aa ab M N C Gr Pr Pa I Ln Sz (upd dr ((x2 - 1).toNatClampNeg) r_11) pR pP pL pN qR qP qL qN R_7 P_8 L_9 N_10 R_3 P_4 L_5 bN) := hD
      refine lv_iinc (v := x2 + (-1)) (lv' := [(2, .int (x2 + (-1))), (3, .int r_2), (0, .ref (b 0))]) hx hb dX4_readLaidIntoDraft_41 hl (k := 2) rfl rfl (by decide) rfl (fun ls hl => ?_)
      refine lv_goto (tgt := 2) hx hb dX4_readLaidIntoDraft_44 (by decide) ?_
      exact ih (upd dr ((x2 - 1).toNatClampNeg) r_11) R_7 P_8 L_9 N_10 R_3 P_4 L_5 (x2 + (-1)) _ _ _ hf hP hD hS (lv_sub hl [2, 0] rfl)
set_option maxHeartbeats 4000000 in
set_option maxRecDepth 100000 in
theorem c_X4_readLaidIntoDraft {l : Launch} {D : va_G} {k : Nat → ClassId} (b : Nat → Nat) (ag : Nat → Nat) (as : Nat → Nat) (ap : Nat → Nat) (aq : Nat → Nat) (aa : Nat → Nat) (ab : Nat → Nat) (M : Int32) (N : Int32) (C : Nat → Nat → Int32) (Gr : Nat → Nat → Int32) (Pr : Nat → Nat → Int64) (Pa : Nat → Nat → Int32) (I : Nat → Nat → Int64) (Ln : Nat → Int32) (Sz : Nat → Int32) (dr : Nat → Int32) (pR : Int32) (pP : Int32) (pL : Nat → Int32) (pN : Nat → Nat → Int32) (qR : Int32) (qP : Int32) (qL : Nat → Int32) (qN : Nat → Nat → Int32) (aR : Int32) (aP : Int32) (aL : Nat → Int32) (aN : Nat → Nat → Int32) (bR : Int32) (bP : Int32) (bL : Nat → Int32) (bN : Nat → Nat → Int32) (x1 : Int32) {post : (Nat → Int32) → Int32 → Int32 → (Nat → Int32) → (Nat → Nat → Int32) → Int32 → Int32 → (Nat → Int32) → Prop} (hf : p_X4_readLaidIntoDraft dr aR aP aL aN bR bP bL bN x1 post) : ctV l yX4_readLaidIntoDraft wsX4_readLaidIntoDraft ({ frames := 4, cells := 0, slots := 0, locals := 90 }) D k [.ref (b 0), .int x1] (wX k b ag as ap aq aa ab M N C Gr Pr Pa I Ln Sz dr pR pP pL pN qR qP qL qN aR aP aL aN bR bP bL bN) (fun u : (Nat → Int32) × Int32 × Int32 × (Nat → Int32) × (Nat → Nat → Int32) × Int32 × Int32 × (Nat → Int32) => wX k b ag as ap aq aa ab M N C Gr Pr Pa I Ln Sz (u.1) pR pP pL pN qR qP qL qN (u.2.1) (u.2.2.1) (u.2.2.2.1) (u.2.2.2.2.1) (u.2.2.2.2.2.1) (u.2.2.2.2.2.2.1) (u.2.2.2.2.2.2.2) bN) (fun (u : (Nat → Int32) × Int32 × Int32 × (Nat → Int32) × (Nat → Nat → Int32) × Int32 × Int32 × (Nat → Int32)) => post u.1 u.2.1 u.2.2.1 u.2.2.2.1 u.2.2.2.2.1 u.2.2.2.2.2.1 u.2.2.2.2.2.2.1 u.2.2.2.2.2.2.2) := by
  refine Met.ofW (cc := cX4_readLaidIntoDraft) (maxL := 4) (ret := none) (by decide) rfl ?_
  intro p e s m args below meth c s₁ B hml hv
  obtain ⟨rfl, hP, hG, hD0⟩ := hv
  have C0 : xM p s m ([.ref (b 0), .int x1] : List Value).toArray meth c cX4_readLaidIntoDraft 4 RX4 none wsX4_readLaidIntoDraft := ⟨B.exec, B.bytes, B.returns, atoms_spec (ws := wsX4_readLaidIntoDraft) B.pre, findClass_of_methodNamed B.named, B.notSynchronized, hml⟩
  obtain ⟨hx, hb, hr, hts, hown, hlocks, hml⟩ := id C0
  have hD := xSelf hD0
  have hS : va_S (xIn (wX k b ag as ap aq aa ab M N C Gr Pr Pa I Ln Sz dr pR pP pL pN qR qP qL qN aR aP aL aN bR bP bL bN)) s.heap s.heap [] := va_S.rf
  generalize xIn (wX k b ag as ap aq aa ab M N C Gr Pr Pa I Ln Sz dr pR pP pL pN qR qP qL qN aR aP aL aN bR bP bL bN) = A at hD hS ⊢
  have hl := lv_entry ([.ref (b 0), .int x1]) (n := 4) (Nat.le_of_ble_eq_true rfl)
  rw [lg_entry_eq]
  generalize (lg_sl ([.ref (b 0), .int x1]) ++ List.replicate (4 - (lg_sl ([.ref (b 0), .int x1])).length) Slot.unset).toArray = ls at hl ⊢
  have hl : lv_has ls 4 [(0, .ref (b 0)), (1, .int x1)] := hl
  unfold p_X4_readLaidIntoDraft at hf
  refine lv_iload_n hx hb dX4_readLaidIntoDraft_0 rfl (lv_at hl 1 rfl) ?_
  refine lv_istore_n (lv' := [(2, .int x1), (0, .ref (b 0)), (1, .int x1)]) hx hb dX4_readLaidIntoDraft_1 rfl hl (by decide) rfl (fun ls hl => ?_)
  obtain ⟨n_13, hf⟩ := hf
  exact k_X4_readLaidIntoDraft_2 C0 hG n_13 dr aR aP aL aN bR bP bL x1 _ _ _ hf hP hD hS (lv_sub hl [1, 0] rfl)

def p_X4_back (dr : Nat → Int32) (pR : Int32) (pP : Int32) (pL : Nat → Int32) (pN : Nat → Nat → Int32) (qR : Int32) (qP : Int32) (qL : Nat → Int32) (qN : Nat → Nat → Int32) (aR : Int32) (aP : Int32) (aL : Nat → Int32) (aN : Nat → Nat → Int32) (bR : Int32) (bP : Int32) (bL : Nat → Int32) (bN : Nat → Nat → Int32) (post : Int32 → (Nat → Int32) → Int32 → Int32 → (Nat → Int32) → (Nat → Nat → Int32) → Int32 → Int32 → (Nat → Int32) → (Nat → Nat → Int32) → Int32 → Int32 → (Nat → Int32) → (Nat → Nat → Int32) → Int32 → Int32 → (Nat → Int32) → Prop) : Prop := p_X4_laidIsAsTold aR aL aN bR bP bL bN (fun r_1 => ((r_1 = 0 → post (-2) dr pR pP pL pN qR qP qL qN aR aP aL aN bR bP bL) ∧ (¬ r_1 = 0 → p_X2_placeCount aP (fun r_3 => p_X4_readLaidIntoDraft dr aR aP aL aN bR bP bL bN r_3 (fun dr_4 aR_5 aP_6 aL_7 aN_8 bR_9 bP_10 bL_11 => p_X2_empty aR_5 aP_6 aL_7 (fun R_12 P_13 L_14 => p_X2_empty bR_9 bP_10 bL_11 (fun R_15 P_16 L_17 => p_X3_become dr_4 pR pP pL pN qR qP qL qN r_3 (fun pR_18 pP_19 pL_20 pN_21 qR_22 qP_23 qL_24 qN_25 => post r_3 dr_4 pR_18 pP_19 pL_20 pN_21 qR_22 qP_23 qL_24 qN_25 R_12 P_13 L_14 aN_8 R_15 P_16 L_17))))))))
theorem in_X4_back_X4 : ∀ w ∈ u_ws RX4 TX4 6, w ∈ wsX4_back := by decide +kernel
theorem lk_X4_back_26 : Cond.fieldLink RX4 26 "GrowingCorners" "word" "LGrowingCorners$Word;" ∈ wsX4_back := by decide +kernel
theorem lk_X4_back_33 : Cond.fieldLink RX4 33 "GrowingCorners" "laidP" "LGrowingCorners$Tableau;" ∈ wsX4_back := by decide +kernel
theorem lk_X4_back_37 : Cond.fieldLink RX4 37 "GrowingCorners" "laidQ" "LGrowingCorners$Tableau;" ∈ wsX4_back := by decide +kernel
theorem lk_X4_back_40 : Cond.fieldLink RX4 40 "GrowingCorners" "draft" "[I" ∈ wsX4_back := by decide +kernel
set_option maxHeartbeats 4000000 in
set_option maxRecDepth 100000 in
theorem c_X4_back {l : Launch} {D : va_G} {k : Nat → ClassId} (b : Nat → Nat) (ag : Nat → Nat) (as : Nat → Nat) (ap : Nat → Nat) (aq : Nat → Nat) (aa : Nat → Nat) (ab : Nat → Nat) (M : Int32) (N : Int32) (C : Nat → Nat → Int32) (Gr : Nat → Nat → Int32) (Pr : Nat → Nat → Int64) (Pa : Nat → Nat → Int32) (I : Nat → Nat → Int64) (Ln : Nat → Int32) (Sz : Nat → Int32) (dr : Nat → Int32) (pR : Int32) (pP : Int32) (pL : Nat → Int32) (pN : Nat → Nat → Int32) (qR : Int32) (qP : Int32) (qL : Nat → Int32) (qN : Nat → Nat → Int32) (aR : Int32) (aP : Int32) (aL : Nat → Int32) (aN : Nat → Nat → Int32) (bR : Int32) (bP : Int32) (bL : Nat → Int32) (bN : Nat → Nat → Int32) {post : Int32 → (Nat → Int32) → Int32 → Int32 → (Nat → Int32) → (Nat → Nat → Int32) → Int32 → Int32 → (Nat → Int32) → (Nat → Nat → Int32) → Int32 → Int32 → (Nat → Int32) → (Nat → Nat → Int32) → Int32 → Int32 → (Nat → Int32) → Prop} (hf : p_X4_back dr pR pP pL pN qR qP qL qN aR aP aL aN bR bP bL bN post) : ctI l yX4_back wsX4_back ({ frames := 6, cells := 0, slots := 0, locals := 136 }) D k [.ref (b 0)] (wX k b ag as ap aq aa ab M N C Gr Pr Pa I Ln Sz dr pR pP pL pN qR qP qL qN aR aP aL aN bR bP bL bN) (fun u : (Nat → Int32) × Int32 × Int32 × (Nat → Int32) × (Nat → Nat → Int32) × Int32 × Int32 × (Nat → Int32) × (Nat → Nat → Int32) × Int32 × Int32 × (Nat → Int32) × (Nat → Nat → Int32) × Int32 × Int32 × (Nat → Int32) => wX k b ag as ap aq aa ab M N C Gr Pr Pa I Ln Sz (u.1) (u.2.1) (u.2.2.1) (u.2.2.2.1) (u.2.2.2.2.1) (u.2.2.2.2.2.1) (u.2.2.2.2.2.2.1) (u.2.2.2.2.2.2.2.1) (u.2.2.2.2.2.2.2.2.1) (u.2.2.2.2.2.2.2.2.2.1) (u.2.2.2.2.2.2.2.2.2.2.1) (u.2.2.2.2.2.2.2.2.2.2.2.1) (u.2.2.2.2.2.2.2.2.2.2.2.2.1) (u.2.2.2.2.2.2.2.2.2.2.2.2.2.1) (u.2.2.2.2.2.2.2.2.2.2.2.2.2.2.1) (u.2.2.2.2.2.2.2.2.2.2.2.2.2.2.2) bN) (fun (r : Int32) (u : (Nat → Int32) × Int32 × Int32 × (Nat → Int32) × (Nat → Nat → Int32) × Int32 × Int32 × (Nat → Int32) × (Nat → Nat → Int32) × Int32 × Int32 × (Nat → Int32) × (Nat → Nat → Int32) × Int32 × Int32 × (Nat → Int32)) => post r u.1 u.2.1 u.2.2.1 u.2.2.2.1 u.2.2.2.2.1 u.2.2.2.2.2.1 u.2.2.2.2.2.2.1 u.2.2.2.2.2.2.2.1 u.2.2.2.2.2.2.2.2.1 u.2.2.2.2.2.2.2.2.2.1 u.2.2.2.2.2.2.2.2.2.2.1 u.2.2.2.2.2.2.2.2.2.2.2.1 u.2.2.2.2.2.2.2.2.2.2.2.2.1 u.2.2.2.2.2.2.2.2.2.2.2.2.2.1 u.2.2.2.2.2.2.2.2.2.2.2.2.2.2.1 u.2.2.2.2.2.2.2.2.2.2.2.2.2.2.2) := by
  refine Met.ofW (cc := cX4_back) (maxL := 2) (ret := (some .int)) (by decide) rfl ?_
  intro p e s m args below meth c s₁ B hml hv
  obtain ⟨rfl, hP, hG, hD0⟩ := hv
  have C0 : xM p s m ([.ref (b 0)] : List Value).toArray meth c cX4_back 2 RX4 (some .int) wsX4_back := ⟨B.exec, B.bytes, B.returns, atoms_spec (ws := wsX4_back) B.pre, findClass_of_methodNamed B.named, B.notSynchronized, hml⟩
  obtain ⟨hx, hb, hr, hts, hown, hlocks, hml⟩ := id C0
  have hD := xSelf hD0
  have hS : va_S (xIn (wX k b ag as ap aq aa ab M N C Gr Pr Pa I Ln Sz dr pR pP pL pN qR qP qL qN aR aP aL aN bR bP bL bN)) s.heap s.heap [] := va_S.rf
  generalize xIn (wX k b ag as ap aq aa ab M N C Gr Pr Pa I Ln Sz dr pR pP pL pN qR qP qL qN aR aP aL aN bR bP bL bN) = A at hD hS ⊢
  have hl := lv_entry ([.ref (b 0)]) (n := 2) (Nat.le_of_ble_eq_true rfl)
  rw [lg_entry_eq]
  generalize (lg_sl ([.ref (b 0)]) ++ List.replicate (2 - (lg_sl ([.ref (b 0)])).length) Slot.unset).toArray = ls at hl ⊢
  have hl : lv_has ls 2 [(0, .ref (b 0))] := hl
  unfold p_X4_back at hf
  refine lv_aload_n hx hb dX4_back_0 rfl (lv_at hl 0 rfl) ?_
  have hp : xPerm (wX k b ag as ap aq aa ab M N C Gr Pr Pa I Ln Sz dr pR pP pL pN qR qP qL qN aR aP aL aN bR bP bL bN) ((wX k b ag as ap aq aa ab M N C Gr Pr Pa I Ln Sz dr pR pP pL pN qR qP qL qN aR aP aL aN bR bP bL bN) ++ ([])) := xPermNil
  refine xCallI (w := wX k b ag as ap aq aa ab M N C Gr Pr Pa I Ln Sz dr pR pP pL pN qR qP qL qN aR aP aL aN bR bP bL bN) (r := []) (va_runV (As := []) (rest := []) ⟨hx, hb, hml, hown, hts⟩ (c_X4_laidIsAsTold b ag as ap aq aa ab M N C Gr Pr Pa I Ln Sz dr pR pP pL pN qR qP qL qN aR aP aL aN bR bP bL bN hf) (cwV 0 hts gX4_back_X4_laidIsAsTold rfl rfl rfl (by decide +kernel) ⟨Nat.le_of_ble_eq_true rfl, Nat.le_of_ble_eq_true rfl⟩) (xPreV hG hP hD hp (ci := 4) rfl (i := 0) rfl) rfl rfl hl.1 rfl (lv_room (Nat.le_of_ble_eq_true rfl)) dX4_back_1 ⟨Nat.zero_le _, Nat.zero_le _⟩) hP hD hS hp (fun _ => wX_adr) (fun r_1 _ H locs hf hP hD hS => ?_)
  have hP : va_P D vwCl (wX k b ag as ap aq aa ab M N C Gr Pr Pa I Ln Sz dr pR pP pL pN qR qP qL qN aR aP aL aN bR bP bL bN) H := xNilP hP
  have hD : va_D A (wX k b ag as ap aq aa ab M N C Gr Pr Pa I Ln Sz dr pR pP pL pN qR qP qL qN aR aP aL aN bR bP bL bN) := xNilD hD
  refine lv_if_ne (tgt := 10) hx hb dX4_back_4 (by decide) (fun c_2 => ?_) (fun c_2 => ?_)
  · have hf := hf.2 c_2
    refine lv_aload_n hx hb dX4_back_10 rfl (lv_at hl 0 rfl) ?_
    refine va_get (D := D) (ci := 4) (C := RX4) (T := TX4) (N := 6) hx hb hts in_X4_back_X4 hown hG.1 hP 0 rfl rfl 3 (by decide) (hts _ lk_X4_back_33) (fun _ h9 => h9) rfl dX4_back_11 ?_
    have hp : xPerm (wX k b ag as ap aq aa ab M N C Gr Pr Pa I Ln Sz dr pR pP pL pN qR qP qL qN aR aP aL aN bR bP bL bN) ((wT k aa aR aP aL aN) ++ ([((b 0, .inr (4, [.ref (ag 0), .ref (b 1), .ref (b 2), .ref (aa 0), .ref (ab 0), .ref (b 3)])) : Nat × va_E)] ++ ([((b 1, .inl (k 5, 4, rfs (fun i => as (2 * i)))) : Nat × va_E)] ++ ([((b 2, .inr (3, [.ref (ap 0), .ref (aq 0)])) : Nat × va_E)] ++ ([((b 3, .inl (k 0, 40, .inl dr)) : Nat × va_E)] ++ (wG k ag M N C Gr Pr Pa ++ (wSS k as I Ln Sz ++ (wT k ap pR pP pL pN ++ (wT k aq qR qP qL qN ++ wT k ab bR bP bL bN))))))))) := (xPermC fun _ x => by simp only [wX, wW, List.count_append]; omega)
    refine xCallI (w := wT k aa aR aP aL aN) (r := [((b 0, .inr (4, [.ref (ag 0), .ref (b 1), .ref (b 2), .ref (aa 0), .ref (ab 0), .ref (b 3)])) : Nat × va_E)] ++ ([((b 1, .inl (k 5, 4, rfs (fun i => as (2 * i)))) : Nat × va_E)] ++ ([((b 2, .inr (3, [.ref (ap 0), .ref (aq 0)])) : Nat × va_E)] ++ ([((b 3, .inl (k 0, 40, .inl dr)) : Nat × va_E)] ++ (wG k ag M N C Gr Pr Pa ++ (wSS k as I Ln Sz ++ (wT k ap pR pP pL pN ++ (wT k aq qR qP qL qN ++ wT k ab bR bP bL bN)))))))) (va_runV (As := []) (rest := []) ⟨hx, hb, hml, hown, hts⟩ (c_X2_placeCount aa aR aP aL aN hf) (cwV 0 hts gX4_back_X2_placeCount rfl rfl rfl (by decide +kernel) ⟨Nat.le_of_ble_eq_true rfl, Nat.le_of_ble_eq_true rfl⟩) (xPreV hG hP hD hp (ci := 2) rfl (i := 0) rfl) rfl rfl hl.1 rfl (lv_room (Nat.le_of_ble_eq_true rfl)) dX4_back_14 ⟨Nat.zero_le _, Nat.zero_le _⟩) hP hD hS hp (fun _ => wT_adr) (fun r_3 _ H locs hf hP hD hS => ?_)
    have hP : va_P D vwCl (wX k b ag as ap aq aa ab M N C Gr Pr Pa I Ln Sz dr pR pP pL pN qR qP qL qN aR aP aL aN bR bP bL bN) H := xP_perm (xPermC fun _ x => by simp only [wX, wW, List.count_append]; omega) hP
    have hD : va_D A (wX k b ag as ap aq aa ab M N C Gr Pr Pa I Ln Sz dr pR pP pL pN qR qP qL qN aR aP aL aN bR bP bL bN) := xD_perm (xPermC fun _ x => by simp only [wX, wW, List.count_append]; omega) hD
    refine lv_istore_n (lv' := [(1, .int r_3), (0, .ref (b 0))]) hx hb dX4_back_17 rfl hl (by decide) rfl (fun ls hl => ?_)
    refine lv_aload_n hx hb dX4_back_18 rfl (lv_at hl 1 rfl) ?_
    refine lv_iload_n hx hb dX4_back_19 rfl (lv_at hl 0 rfl) ?_
    have hp : xPerm (wX k b ag as ap aq aa ab M N C Gr Pr Pa I Ln Sz dr pR pP pL pN qR qP qL qN aR aP aL aN bR bP bL bN) ((wX k b ag as ap aq aa ab M N C Gr Pr Pa I Ln Sz dr pR pP pL pN qR qP qL qN aR aP aL aN bR bP bL bN) ++ ([])) := xPermNil
    refine xCallV (w := wX k b ag as ap aq aa ab M N C Gr Pr Pa I Ln Sz dr pR pP pL pN qR qP qL qN aR aP aL aN bR bP bL bN) (r := []) (va_runV (As := [.int r_3]) (rest := []) ⟨hx, hb, hml, hown, hts⟩ (c_X4_readLaidIntoDraft b ag as ap aq aa ab M N C Gr Pr Pa I Ln Sz dr pR pP pL pN qR qP qL qN aR aP aL aN bR bP bL bN r_3 hf) (cwV 1 hts gX4_back_X4_readLaidIntoDraft rfl rfl rfl (by decide +kernel) ⟨Nat.le_of_ble_eq_true rfl, Nat.le_of_ble_eq_true rfl⟩) (xPreV hG hP hD hp (ci := 4) rfl (i := 0) rfl) rfl rfl hl.1 rfl (lv_room (Nat.le_of_ble_eq_true rfl)) dX4_back_20 ⟨Nat.zero_le _, Nat.zero_le _⟩) hP hD hS hp (fun _ => wX_adr) (fun u H locs hf hP hD hS => ?_)
    obtain ⟨dr_4, aR_5, aP_6, aL_7, aN_8, bR_9, bP_10, bL_11⟩ := u
    have hP : va_P D vwCl (wX k b ag as ap aq aa ab M N C Gr Pr Pa I Ln Sz dr_4 pR pP pL pN qR qP qL qN aR_5 aP_6 aL_7 aN_8 bR_9 bP_10 bL_11 bN) H := xNilP hP
    have hD : va_D A (wX k b ag as ap aq aa ab M N C Gr Pr Pa I Ln Sz dr_4 pR pP pL pN qR qP qL qN aR_5 aP_6 aL_7 aN_8 bR_9 bP_10 bL_11 bN) := xNilD hD
    refine lv_aload_n hx hb dX4_back_23 rfl (lv_at hl 1 rfl) ?_
    refine va_get (D := D) (ci := 4) (C := RX4) (T := TX4) (N := 6) hx hb hts in_X4_back_X4 hown hG.1 hP 0 rfl rfl 3 (by decide) (hts _ lk_X4_back_33) (fun _ h9 => h9) rfl dX4_back_24 ?_
    have hp : xPerm (wX k b ag as ap aq aa ab M N C Gr Pr Pa I Ln Sz dr_4 pR pP pL pN qR qP qL qN aR_5 aP_6 aL_7 aN_8 bR_9 bP_10 bL_11 bN) ((wT k aa aR_5 aP_6 aL_7 aN_8) ++ ([((b 0, .inr (4, [.ref (ag 0), .ref (b 1), .ref (b 2), .ref (aa 0), .ref (ab 0), .ref (b 3)])) : Nat × va_E)] ++ ([((b 1, .inl (k 5, 4, rfs (fun i => as (2 * i)))) : Nat × va_E)] ++ ([((b 2, .inr (3, [.ref (ap 0), .ref (aq 0)])) : Nat × va_E)] ++ ([((b 3, .inl (k 0, 40, .inl dr_4)) : Nat × va_E)] ++ (wG k ag M N C Gr Pr Pa ++ (wSS k as I Ln Sz ++ (wT k ap pR pP pL pN ++ (wT k aq qR qP qL qN ++ wT k ab bR_9 bP_10 bL_11 bN))))))))) := (xPermC fun _ x => by simp only [wX, wW, List.count_append]; omega)
    refine xCallV (w := wT k aa aR_5 aP_6 aL_7 aN_8) (r := [((b 0, .inr (4, [.ref (ag 0), .ref (b 1), .ref (b 2), .ref (aa 0), .ref (ab 0), .ref (b 3)])) : Nat × va_E)] ++ ([((b 1, .inl (k 5, 4, rfs (fun i => as (2 * i)))) : Nat × va_E)] ++ ([((b 2, .inr (3, [.ref (ap 0), .ref (aq 0)])) : Nat × va_E)] ++ ([((b 3, .inl (k 0, 40, .inl dr_4)) : Nat × va_E)] ++ (wG k ag M N C Gr Pr Pa ++ (wSS k as I Ln Sz ++ (wT k ap pR pP pL pN ++ (wT k aq qR qP qL qN ++ wT k ab bR_9 bP_10 bL_11 bN)))))))) (va_runV (As := []) (rest := []) ⟨hx, hb, hml, hown, hts⟩ (c_X2_empty aa aR_5 aP_6 aL_7 aN_8 hf) (cwV 0 hts gX4_back_X2_empty rfl rfl rfl (by decide +kernel) ⟨Nat.le_of_ble_eq_true rfl, Nat.le_of_ble_eq_true rfl⟩) (xPreV hG hP hD hp (ci := 2) rfl (i := 0) rfl) rfl rfl hl.1 rfl (lv_room (Nat.le_of_ble_eq_true rfl)) dX4_back_27 ⟨Nat.zero_le _, Nat.zero_le _⟩) hP hD hS hp (fun _ => wT_adr) (fun u H locs hf hP hD hS => ?_)
    obtain ⟨R_12, P_13, L_14⟩ := u
    have hP : va_P D vwCl (wX k b ag as ap aq aa ab M N C Gr Pr Pa I Ln Sz dr_4 pR pP pL pN qR qP qL qN R_12 P_13 L_14 aN_8 bR_9 bP_10 bL_11 bN) H := xP_perm (xPermC fun _ x => by simp only [wX, wW, List.count_append]; omega) hP
    have hD : va_D A (wX k b ag as ap aq aa ab M N C Gr Pr Pa I Ln Sz dr_4 pR pP pL pN qR qP qL qN R_12 P_13 L_14 aN_8 bR_9 bP_10 bL_11 bN) := xD_perm (xPermC fun _ x => by simp only [wX, wW, List.count_append]; omega) hD
    refine lv_aload_n hx hb dX4_back_30 rfl (lv_at hl 1 rfl) ?_
    refine va_get (D := D) (ci := 4) (C := RX4) (T := TX4) (N := 6) hx hb hts in_X4_back_X4 hown hG.1 hP 0 rfl rfl 4 (by decide) (hts _ lk_X4_back_37) (fun _ h9 => h9) rfl dX4_back_31 ?_
    have hp : xPerm (wX k b ag as ap aq aa ab M N C Gr Pr Pa I Ln Sz dr_4 pR pP pL pN qR qP qL qN R_12 P_13 L_14 aN_8 bR_9 bP_10 bL_11 bN) ((wT k ab bR_9 bP_10 bL_11 bN) ++ ([((b 0, .inr (4, [.ref (ag 0), .ref (b 1), .ref (b 2), .ref (aa 0), .ref (ab 0), .ref (b 3)])) : Nat × va_E)] ++ ([((b 1, .inl (k 5, 4, rfs (fun i => as (2 * i)))) : Nat × va_E)] ++ ([((b 2, .inr (3, [.ref (ap 0), .ref (aq 0)])) : Nat × va_E)] ++ ([((b 3, .inl (k 0, 40, .inl dr_4)) : Nat × va_E)] ++ (wG k ag M N C Gr Pr Pa ++ (wSS k as I Ln Sz ++ (wT k ap pR pP pL pN ++ (wT k aq qR qP qL qN ++ wT k aa R_12 P_13 L_14 aN_8))))))))) := (xPermC fun _ x => by simp only [wX, wW, List.count_append]; omega)
    refine xCallV (w := wT k ab bR_9 bP_10 bL_11 bN) (r := [((b 0, .inr (4, [.ref (ag 0), .ref (b 1), .ref (b 2), .ref (aa 0), .ref (ab 0), .ref (b 3)])) : Nat × va_E)] ++ ([((b 1, .inl (k 5, 4, rfs (fun i => as (2 * i)))) : Nat × va_E)] ++ ([((b 2, .inr (3, [.ref (ap 0), .ref (aq 0)])) : Nat × va_E)] ++ ([((b 3, .inl (k 0, 40, .inl dr_4)) : Nat × va_E)] ++ (wG k ag M N C Gr Pr Pa ++ (wSS k as I Ln Sz ++ (wT k ap pR pP pL pN ++ (wT k aq qR qP qL qN ++ wT k aa R_12 P_13 L_14 aN_8)))))))) (va_runV (As := []) (rest := []) ⟨hx, hb, hml, hown, hts⟩ (c_X2_empty ab bR_9 bP_10 bL_11 bN hf) (cwV 0 hts gX4_back_X2_empty rfl rfl rfl (by decide +kernel) ⟨Nat.le_of_ble_eq_true rfl, Nat.le_of_ble_eq_true rfl⟩) (xPreV hG hP hD hp (ci := 2) rfl (i := 0) rfl) rfl rfl hl.1 rfl (lv_room (Nat.le_of_ble_eq_true rfl)) dX4_back_34 ⟨Nat.zero_le _, Nat.zero_le _⟩) hP hD hS hp (fun _ => wT_adr) (fun u H locs hf hP hD hS => ?_)
    obtain ⟨R_15, P_16, L_17⟩ := u
    have hP : va_P D vwCl (wX k b ag as ap aq aa ab M N C Gr Pr Pa I Ln Sz dr_4 pR pP pL pN qR qP qL qN R_12 P_13 L_14 aN_8 R_15 P_16 L_17 bN) H := xP_perm (xPermC fun _ x => by simp only [wX, wW, List.count_append]; omega) hP
    have hD : va_D A (wX k b ag as ap aq aa ab M N C Gr Pr Pa I Ln Sz dr_4 pR pP pL pN qR qP qL qN R_12 P_13 L_14 aN_8 R_15 P_16 L_17 bN) := xD_perm (xPermC fun _ x => by simp only [wX, wW, List.count_append]; omega) hD
    refine lv_aload_n hx hb dX4_back_37 rfl (lv_at hl 1 rfl) ?_
    refine va_get (D := D) (ci := 4) (C := RX4) (T := TX4) (N := 6) hx hb hts in_X4_back_X4 hown hG.1 hP 0 rfl rfl 2 (by decide) (hts _ lk_X4_back_26) (fun _ h9 => h9) rfl dX4_back_38 ?_
    refine lv_aload_n hx hb dX4_back_41 rfl (lv_at hl 1 rfl) ?_
    refine va_get (D := D) (ci := 4) (C := RX4) (T := TX4) (N := 6) hx hb hts in_X4_back_X4 hown hG.1 hP 0 rfl rfl 5 (by decide) (hts _ lk_X4_back_40) (fun _ h9 => h9) rfl dX4_back_42 ?_
    refine lv_iload_n hx hb dX4_back_45 rfl (lv_at hl 0 rfl) ?_
    have hp : xPerm (wX k b ag as ap aq aa ab M N C Gr Pr Pa I Ln Sz dr_4 pR pP pL pN qR qP qL qN R_12 P_13 L_14 aN_8 R_15 P_16 L_17 bN) (([((b 3, .inl (k 0, 40, .inl dr_4)) : Nat × va_E)] ++ wW k (b 2) ap aq pR pP pL pN qR qP qL qN) ++ ([((b 0, .inr (4, [.ref (ag 0), .ref (b 1), .ref (b 2), .ref (aa 0), .ref (ab 0), .ref (b 3)])) : Nat × va_E)] ++ ([((b 1, .inl (k 5, 4, rfs (fun i => as (2 * i)))) : Nat × va_E)] ++ (wG k ag M N C Gr Pr Pa ++ (wSS k as I Ln Sz ++ (wT k aa R_12 P_13 L_14 aN_8 ++ wT k ab R_15 P_16 L_17 bN)))))) := (xPermC fun _ x => by simp only [wX, wW, List.count_append]; omega)
    refine xCallV (w := [((b 3, .inl (k 0, 40, .inl dr_4)) : Nat × va_E)] ++ wW k (b 2) ap aq pR pP pL pN qR qP qL qN) (r := [((b 0, .inr (4, [.ref (ag 0), .ref (b 1), .ref (b 2), .ref (aa 0), .ref (ab 0), .ref (b 3)])) : Nat × va_E)] ++ ([((b 1, .inl (k 5, 4, rfs (fun i => as (2 * i)))) : Nat × va_E)] ++ (wG k ag M N C Gr Pr Pa ++ (wSS k as I Ln Sz ++ (wT k aa R_12 P_13 L_14 aN_8 ++ wT k ab R_15 P_16 L_17 bN))))) (va_runV (As := [.ref (b 3), .int r_3]) (rest := []) ⟨hx, hb, hml, hown, hts⟩ (c_X3_become (b 3) (b 2) ap aq dr_4 pR pP pL pN qR qP qL qN r_3 hf) (cwV 2 hts gX4_back_X3_become rfl rfl rfl (by decide +kernel) ⟨Nat.le_of_ble_eq_true rfl, Nat.le_of_ble_eq_true rfl⟩) (xPreV hG hP hD hp (ci := 3) rfl (i := 1) rfl) rfl rfl hl.1 rfl (lv_room (Nat.le_of_ble_eq_true rfl)) dX4_back_46 ⟨Nat.zero_le _, Nat.zero_le _⟩) hP hD hS hp (fun _ => xAdr2 rfl wW_adr) (fun u H locs hf hP hD hS => ?_)
    obtain ⟨pR_18, pP_19, pL_20, pN_21, qR_22, qP_23, qL_24, qN_25⟩ := u
    have hP : va_P D vwCl (wX k b ag as ap aq aa ab M N C Gr Pr Pa I Ln Sz dr_4 pR_18 pP_19 pL_20 pN_21 qR_22 qP_23 qL_24 qN_25 R_12 P_13 L_14 aN_8 R_15 P_16 L_17 bN) H := xP_perm (xPermC fun _ x => by simp only [wX, wW, List.count_append]; omega) hP
    have hD : va_D A (wX k b ag as ap aq aa ab M N C Gr Pr Pa I Ln Sz dr_4 pR_18 pP_19 pL_20 pN_21 qR_22 qP_23 qL_24 qN_25 R_12 P_13 L_14 aN_8 R_15 P_16 L_17 bN) := xD_perm (xPermC fun _ x => by simp only [wX, wW, List.count_append]; omega) hD
    refine lv_iload_n hx hb dX4_back_49 rfl (lv_at hl 0 rfl) ?_
    exact W.iret (v := r_3) hx hb hr (fun t ht hW => ⟨⟨r_3, (dr_4, pR_18, pP_19, pL_20, pN_21, qR_22, qP_23, qL_24, qN_25, R_12, P_13, L_14, aN_8, R_15, P_16, L_17), rfl, hf, xHp ht hP⟩, hS.F ht⟩) hS.2.2 dX4_back_50 hlocks
  · have hf := hf.1 c_2
    refine lv_bipush (v := (-2)) hx hb dX4_back_7 (by decide) ?_
    exact W.iret (v := (-2)) hx hb hr (fun t ht hW => ⟨⟨((-2) : Int32), (dr, pR, pP, pL, pN, qR, qP, qL, qN, aR, aP, aL, aN, bR, bP, bL), rfl, hf, xHp ht hP⟩, hS.F ht⟩) hS.2.2 dX4_back_9 hlocks

def p_X4_wordOf (M : Int32) (N : Int32) (C : Nat → Nat → Int32) (dr : Nat → Int32) (pR : Int32) (pP : Int32) (pL : Nat → Int32) (pN : Nat → Nat → Int32) (qR : Int32) (qP : Int32) (qL : Nat → Int32) (qN : Nat → Nat → Int32) (post : Int32 → (Nat → Int32) → Int32 → Int32 → (Nat → Int32) → (Nat → Nat → Int32) → Int32 → Int32 → (Nat → Int32) → (Nat → Nat → Int32) → Prop) : Prop := p_X0_total M N C (fun r_1 => ((r_1 ≤ 40 → p_X0_spell dr M N C (fun f_3 => p_X3_become f_3 pR pP pL pN qR qP qL qN r_1 (fun pR_4 pP_5 pL_6 pN_7 qR_8 qP_9 qL_10 qN_11 => post r_1 f_3 pR_4 pP_5 pL_6 pN_7 qR_8 qP_9 qL_10 qN_11))) ∧ (¬ r_1 ≤ 40 → post (-3) dr pR pP pL pN qR qP qL qN)))
theorem in_X4_wordOf_X4 : ∀ w ∈ u_ws RX4 TX4 6, w ∈ wsX4_wordOf := by decide +kernel
theorem lk_X4_wordOf_10 : Cond.fieldLink RX4 10 "GrowingCorners" "grid" "LGrowingCorners$Grid;" ∈ wsX4_wordOf := by decide +kernel
theorem lk_X4_wordOf_26 : Cond.fieldLink RX4 26 "GrowingCorners" "word" "LGrowingCorners$Word;" ∈ wsX4_wordOf := by decide +kernel
theorem lk_X4_wordOf_40 : Cond.fieldLink RX4 40 "GrowingCorners" "draft" "[I" ∈ wsX4_wordOf := by decide +kernel
set_option maxHeartbeats 4000000 in
set_option maxRecDepth 100000 in
theorem c_X4_wordOf {l : Launch} {D : va_G} {k : Nat → ClassId} (b : Nat → Nat) (ag : Nat → Nat) (as : Nat → Nat) (ap : Nat → Nat) (aq : Nat → Nat) (aa : Nat → Nat) (ab : Nat → Nat) (M : Int32) (N : Int32) (C : Nat → Nat → Int32) (Gr : Nat → Nat → Int32) (Pr : Nat → Nat → Int64) (Pa : Nat → Nat → Int32) (I : Nat → Nat → Int64) (Ln : Nat → Int32) (Sz : Nat → Int32) (dr : Nat → Int32) (pR : Int32) (pP : Int32) (pL : Nat → Int32) (pN : Nat → Nat → Int32) (qR : Int32) (qP : Int32) (qL : Nat → Int32) (qN : Nat → Nat → Int32) (aR : Int32) (aP : Int32) (aL : Nat → Int32) (aN : Nat → Nat → Int32) (bR : Int32) (bP : Int32) (bL : Nat → Int32) (bN : Nat → Nat → Int32) {post : Int32 → (Nat → Int32) → Int32 → Int32 → (Nat → Int32) → (Nat → Nat → Int32) → Int32 → Int32 → (Nat → Int32) → (Nat → Nat → Int32) → Prop} (hf : p_X4_wordOf M N C dr pR pP pL pN qR qP qL qN post) : ctI l yX4_wordOf wsX4_wordOf ({ frames := 6, cells := 0, slots := 0, locals := 136 }) D k [.ref (b 0)] (wX k b ag as ap aq aa ab M N C Gr Pr Pa I Ln Sz dr pR pP pL pN qR qP qL qN aR aP aL aN bR bP bL bN) (fun u : (Nat → Int32) × Int32 × Int32 × (Nat → Int32) × (Nat → Nat → Int32) × Int32 × Int32 × (Nat → Int32) × (Nat → Nat → Int32) => wX k b ag as ap aq aa ab M N C Gr Pr Pa I Ln Sz (u.1) (u.2.1) (u.2.2.1) (u.2.2.2.1) (u.2.2.2.2.1) (u.2.2.2.2.2.1) (u.2.2.2.2.2.2.1) (u.2.2.2.2.2.2.2.1) (u.2.2.2.2.2.2.2.2) aR aP aL aN bR bP bL bN) (fun (r : Int32) (u : (Nat → Int32) × Int32 × Int32 × (Nat → Int32) × (Nat → Nat → Int32) × Int32 × Int32 × (Nat → Int32) × (Nat → Nat → Int32)) => post r u.1 u.2.1 u.2.2.1 u.2.2.2.1 u.2.2.2.2.1 u.2.2.2.2.2.1 u.2.2.2.2.2.2.1 u.2.2.2.2.2.2.2.1 u.2.2.2.2.2.2.2.2) := by
  refine Met.ofW (cc := cX4_wordOf) (maxL := 2) (ret := (some .int)) (by decide) rfl ?_
  intro p e s m args below meth c s₁ B hml hv
  obtain ⟨rfl, hP, hG, hD0⟩ := hv
  have C0 : xM p s m ([.ref (b 0)] : List Value).toArray meth c cX4_wordOf 2 RX4 (some .int) wsX4_wordOf := ⟨B.exec, B.bytes, B.returns, atoms_spec (ws := wsX4_wordOf) B.pre, findClass_of_methodNamed B.named, B.notSynchronized, hml⟩
  obtain ⟨hx, hb, hr, hts, hown, hlocks, hml⟩ := id C0
  have hD := xSelf hD0
  have hS : va_S (xIn (wX k b ag as ap aq aa ab M N C Gr Pr Pa I Ln Sz dr pR pP pL pN qR qP qL qN aR aP aL aN bR bP bL bN)) s.heap s.heap [] := va_S.rf
  generalize xIn (wX k b ag as ap aq aa ab M N C Gr Pr Pa I Ln Sz dr pR pP pL pN qR qP qL qN aR aP aL aN bR bP bL bN) = A at hD hS ⊢
  have hl := lv_entry ([.ref (b 0)]) (n := 2) (Nat.le_of_ble_eq_true rfl)
  rw [lg_entry_eq]
  generalize (lg_sl ([.ref (b 0)]) ++ List.replicate (2 - (lg_sl ([.ref (b 0)])).length) Slot.unset).toArray = ls at hl ⊢
  have hl : lv_has ls 2 [(0, .ref (b 0))] := hl
  unfold p_X4_wordOf at hf
  refine lv_aload_n hx hb dX4_wordOf_0 rfl (lv_at hl 0 rfl) ?_
  refine va_get (D := D) (ci := 4) (C := RX4) (T := TX4) (N := 6) hx hb hts in_X4_wordOf_X4 hown hG.1 hP 0 rfl rfl 0 (by decide) (hts _ lk_X4_wordOf_10) (fun _ h9 => h9) rfl dX4_wordOf_1 ?_
  have hp : xPerm (wX k b ag as ap aq aa ab M N C Gr Pr Pa I Ln Sz dr pR pP pL pN qR qP qL qN aR aP aL aN bR bP bL bN) ((wG k ag M N C Gr Pr Pa) ++ ([((b 0, .inr (4, [.ref (ag 0), .ref (b 1), .ref (b 2), .ref (aa 0), .ref (ab 0), .ref (b 3)])) : Nat × va_E)] ++ ([((b 1, .inl (k 5, 4, rfs (fun i => as (2 * i)))) : Nat × va_E)] ++ ([((b 2, .inr (3, [.ref (ap 0), .ref (aq 0)])) : Nat × va_E)] ++ ([((b 3, .inl (k 0, 40, .inl dr)) : Nat × va_E)] ++ (wSS k as I Ln Sz ++ (wT k ap pR pP pL pN ++ (wT k aq qR qP qL qN ++ (wT k aa aR aP aL aN ++ wT k ab bR bP bL bN))))))))) := (xPermC fun _ x => by simp only [wX, wW, List.count_append]; omega)
  refine xCallI (w := wG k ag M N C Gr Pr Pa) (r := [((b 0, .inr (4, [.ref (ag 0), .ref (b 1), .ref (b 2), .ref (aa 0), .ref (ab 0), .ref (b 3)])) : Nat × va_E)] ++ ([((b 1, .inl (k 5, 4, rfs (fun i => as (2 * i)))) : Nat × va_E)] ++ ([((b 2, .inr (3, [.ref (ap 0), .ref (aq 0)])) : Nat × va_E)] ++ ([((b 3, .inl (k 0, 40, .inl dr)) : Nat × va_E)] ++ (wSS k as I Ln Sz ++ (wT k ap pR pP pL pN ++ (wT k aq qR qP qL qN ++ (wT k aa aR aP aL aN ++ wT k ab bR bP bL bN)))))))) (va_runV (As := []) (rest := []) ⟨hx, hb, hml, hown, hts⟩ (c_X0_total ag M N C Gr Pr Pa hf) (cwV 0 hts gX4_wordOf_X0_total rfl rfl rfl (by decide +kernel) ⟨Nat.le_of_ble_eq_true rfl, Nat.le_of_ble_eq_true rfl⟩) (xPreV hG hP hD hp (ci := 0) rfl (i := 0) rfl) rfl rfl hl.1 rfl (lv_room (Nat.le_of_ble_eq_true rfl)) dX4_wordOf_4 ⟨Nat.zero_le _, Nat.zero_le _⟩) hP hD hS hp (fun _ => wG_adr) (fun r_1 _ H locs hf hP hD hS => ?_)
  have hP : va_P D vwCl (wX k b ag as ap aq aa ab M N C Gr Pr Pa I Ln Sz dr pR pP pL pN qR qP qL qN aR aP aL aN bR bP bL bN) H := xP_perm (xPermC fun _ x => by simp only [wX, wW, List.count_append]; omega) hP
  have hD : va_D A (wX k b ag as ap aq aa ab M N C Gr Pr Pa I Ln Sz dr pR pP pL pN qR qP qL qN aR aP aL aN bR bP bL bN) := xD_perm (xPermC fun _ x => by simp only [wX, wW, List.count_append]; omega) hD
  refine lv_istore_n (lv' := [(1, .int r_1), (0, .ref (b 0))]) hx hb dX4_wordOf_7 rfl hl (by decide) rfl (fun ls hl => ?_)
  refine lv_iload_n hx hb dX4_wordOf_8 rfl (lv_at hl 0 rfl) ?_
  refine lv_bipush (v := 40) hx hb dX4_wordOf_9 (by decide) ?_
  refine lv_icmp_le (tgt := 17) hx hb dX4_wordOf_11 (by decide) (fun c_2 => ?_) (fun c_2 => ?_)
  · have hf := hf.1 c_2
    refine lv_aload_n hx hb dX4_wordOf_17 rfl (lv_at hl 1 rfl) ?_
    refine va_get (D := D) (ci := 4) (C := RX4) (T := TX4) (N := 6) hx hb hts in_X4_wordOf_X4 hown hG.1 hP 0 rfl rfl 0 (by decide) (hts _ lk_X4_wordOf_10) (fun _ h9 => h9) rfl dX4_wordOf_18 ?_
    refine lv_aload_n hx hb dX4_wordOf_21 rfl (lv_at hl 1 rfl) ?_
    refine va_get (D := D) (ci := 4) (C := RX4) (T := TX4) (N := 6) hx hb hts in_X4_wordOf_X4 hown hG.1 hP 0 rfl rfl 5 (by decide) (hts _ lk_X4_wordOf_40) (fun _ h9 => h9) rfl dX4_wordOf_22 ?_
    have hp : xPerm (wX k b ag as ap aq aa ab M N C Gr Pr Pa I Ln Sz dr pR pP pL pN qR qP qL qN aR aP aL aN bR bP bL bN) (([((b 3, .inl (k 0, 40, .inl dr)) : Nat × va_E)] ++ wG k ag M N C Gr Pr Pa) ++ ([((b 0, .inr (4, [.ref (ag 0), .ref (b 1), .ref (b 2), .ref (aa 0), .ref (ab 0), .ref (b 3)])) : Nat × va_E)] ++ ([((b 1, .inl (k 5, 4, rfs (fun i => as (2 * i)))) : Nat × va_E)] ++ ([((b 2, .inr (3, [.ref (ap 0), .ref (aq 0)])) : Nat × va_E)] ++ (wSS k as I Ln Sz ++ (wT k ap pR pP pL pN ++ (wT k aq qR qP qL qN ++ (wT k aa aR aP aL aN ++ wT k ab bR bP bL bN)))))))) := (xPermC fun _ x => by simp only [wX, wW, List.count_append]; omega)
    refine xCallV (w := [((b 3, .inl (k 0, 40, .inl dr)) : Nat × va_E)] ++ wG k ag M N C Gr Pr Pa) (r := [((b 0, .inr (4, [.ref (ag 0), .ref (b 1), .ref (b 2), .ref (aa 0), .ref (ab 0), .ref (b 3)])) : Nat × va_E)] ++ ([((b 1, .inl (k 5, 4, rfs (fun i => as (2 * i)))) : Nat × va_E)] ++ ([((b 2, .inr (3, [.ref (ap 0), .ref (aq 0)])) : Nat × va_E)] ++ (wSS k as I Ln Sz ++ (wT k ap pR pP pL pN ++ (wT k aq qR qP qL qN ++ (wT k aa aR aP aL aN ++ wT k ab bR bP bL bN))))))) (va_runV (As := [.ref (b 3)]) (rest := []) ⟨hx, hb, hml, hown, hts⟩ (c_X0_spell (b 3) ag dr M N C Gr Pr Pa hf) (cwV 1 hts gX4_wordOf_X0_spell rfl rfl rfl (by decide +kernel) ⟨Nat.le_of_ble_eq_true rfl, Nat.le_of_ble_eq_true rfl⟩) (xPreV hG hP hD hp (ci := 0) rfl (i := 1) rfl) rfl rfl hl.1 rfl (lv_room (Nat.le_of_ble_eq_true rfl)) dX4_wordOf_25 ⟨Nat.zero_le _, Nat.zero_le _⟩) hP hD hS hp (fun _ => xAdr2 rfl wG_adr) (fun f_3 H locs hf hP hD hS => ?_)
    have hP : va_P D vwCl (wX k b ag as ap aq aa ab M N C Gr Pr Pa I Ln Sz f_3 pR pP pL pN qR qP qL qN aR aP aL aN bR bP bL bN) H := xP_perm (xPermC fun _ x => by simp only [wX, wW, List.count_append]; omega) hP
    have hD : va_D A (wX k b ag as ap aq aa ab M N C Gr Pr Pa I Ln Sz f_3 pR pP pL pN qR qP qL qN aR aP aL aN bR bP bL bN) := xD_perm (xPermC fun _ x => by simp only [wX, wW, List.count_append]; omega) hD
    refine lv_aload_n hx hb dX4_wordOf_28 rfl (lv_at hl 1 rfl) ?_
    refine va_get (D := D) (ci := 4) (C := RX4) (T := TX4) (N := 6) hx hb hts in_X4_wordOf_X4 hown hG.1 hP 0 rfl rfl 2 (by decide) (hts _ lk_X4_wordOf_26) (fun _ h9 => h9) rfl dX4_wordOf_29 ?_
    refine lv_aload_n hx hb dX4_wordOf_32 rfl (lv_at hl 1 rfl) ?_
    refine va_get (D := D) (ci := 4) (C := RX4) (T := TX4) (N := 6) hx hb hts in_X4_wordOf_X4 hown hG.1 hP 0 rfl rfl 5 (by decide) (hts _ lk_X4_wordOf_40) (fun _ h9 => h9) rfl dX4_wordOf_33 ?_
    refine lv_iload_n hx hb dX4_wordOf_36 rfl (lv_at hl 0 rfl) ?_
    have hp : xPerm (wX k b ag as ap aq aa ab M N C Gr Pr Pa I Ln Sz f_3 pR pP pL pN qR qP qL qN aR aP aL aN bR bP bL bN) (([((b 3, .inl (k 0, 40, .inl f_3)) : Nat × va_E)] ++ wW k (b 2) ap aq pR pP pL pN qR qP qL qN) ++ ([((b 0, .inr (4, [.ref (ag 0), .ref (b 1), .ref (b 2), .ref (aa 0), .ref (ab 0), .ref (b 3)])) : Nat × va_E)] ++ ([((b 1, .inl (k 5, 4, rfs (fun i => as (2 * i)))) : Nat × va_E)] ++ (wG k ag M N C Gr Pr Pa ++ (wSS k as I Ln Sz ++ (wT k aa aR aP aL aN ++ wT k ab bR bP bL bN)))))) := (xPermC fun _ x => by simp only [wX, wW, List.count_append]; omega)
    refine xCallV (w := [((b 3, .inl (k 0, 40, .inl f_3)) : Nat × va_E)] ++ wW k (b 2) ap aq pR pP pL pN qR qP qL qN) (r := [((b 0, .inr (4, [.ref (ag 0), .ref (b 1), .ref (b 2), .ref (aa 0), .ref (ab 0), .ref (b 3)])) : Nat × va_E)] ++ ([((b 1, .inl (k 5, 4, rfs (fun i => as (2 * i)))) : Nat × va_E)] ++ (wG k ag M N C Gr Pr Pa ++ (wSS k as I Ln Sz ++ (wT k aa aR aP aL aN ++ wT k ab bR bP bL bN))))) (va_runV (As := [.ref (b 3), .int r_1]) (rest := []) ⟨hx, hb, hml, hown, hts⟩ (c_X3_become (b 3) (b 2) ap aq f_3 pR pP pL pN qR qP qL qN r_1 hf) (cwV 2 hts gX4_wordOf_X3_become rfl rfl rfl (by decide +kernel) ⟨Nat.le_of_ble_eq_true rfl, Nat.le_of_ble_eq_true rfl⟩) (xPreV hG hP hD hp (ci := 3) rfl (i := 1) rfl) rfl rfl hl.1 rfl (lv_room (Nat.le_of_ble_eq_true rfl)) dX4_wordOf_37 ⟨Nat.zero_le _, Nat.zero_le _⟩) hP hD hS hp (fun _ => xAdr2 rfl wW_adr) (fun u H locs hf hP hD hS => ?_)
    obtain ⟨pR_4, pP_5, pL_6, pN_7, qR_8, qP_9, qL_10, qN_11⟩ := u
    have hP : va_P D vwCl (wX k b ag as ap aq aa ab M N C Gr Pr Pa I Ln Sz f_3 pR_4 pP_5 pL_6 pN_7 qR_8 qP_9 qL_10 qN_11 aR aP aL aN bR bP bL bN) H := xP_perm (xPermC fun _ x => by simp only [wX, wW, List.count_append]; omega) hP
    have hD : va_D A (wX k b ag as ap aq aa ab M N C Gr Pr Pa I Ln Sz f_3 pR_4 pP_5 pL_6 pN_7 qR_8 qP_9 qL_10 qN_11 aR aP aL aN bR bP bL bN) := xD_perm (xPermC fun _ x => by simp only [wX, wW, List.count_append]; omega) hD
    refine lv_iload_n hx hb dX4_wordOf_40 rfl (lv_at hl 0 rfl) ?_
    exact W.iret (v := r_1) hx hb hr (fun t ht hW => ⟨⟨r_1, (f_3, pR_4, pP_5, pL_6, pN_7, qR_8, qP_9, qL_10, qN_11), rfl, hf, xHp ht hP⟩, hS.F ht⟩) hS.2.2 dX4_wordOf_41 hlocks
  · have hf := hf.2 c_2
    refine lv_bipush (v := (-3)) hx hb dX4_wordOf_14 (by decide) ?_
    exact W.iret (v := (-3)) hx hb hr (fun t ht hW => ⟨⟨((-3) : Int32), (dr, pR, pP, pL, pN, qR, qP, qL, qN), rfl, hf, xHp ht hP⟩, hS.F ht⟩) hS.2.2 dX4_wordOf_16 hlocks

def p_X4_tableauxOf (x0 : Int32) (x1 : Int32) (x2 : Int32) (x3 : Int32) (post : Int64 → Prop) : Prop := ((x0 = 1 → post 1) ∧ (¬ x0 = 1 → ((x0 = 2 → post (((x1 - x2) + 1).toInt64)) ∧ (¬ x0 = 2 → (¬ (2 : Int64) = 0 ∧ post ((((((x1 - x2) + 1).toInt64) * (((x2 - x3) + 1).toInt64)) * (((x1 - x3) + 2).toInt64)) / 2))))))
theorem mb_X4_tableauxOf_cl233 : Cond.constantLong RX4 233 (2) ∈ wsX4_tableauxOf := by decide +kernel
set_option maxHeartbeats 4000000 in
set_option maxRecDepth 100000 in
theorem c_X4_tableauxOf {l : Launch} {D : va_G} {k : Nat → ClassId} (x0 : Int32) (x1 : Int32) (x2 : Int32) (x3 : Int32) {post : Int64 → Prop} (hf : p_X4_tableauxOf x0 x1 x2 x3 post) : ctL l yX4_tableauxOf wsX4_tableauxOf ({ frames := 0, cells := 0, slots := 0, locals := 0 }) D k [.int x0, .int x1, .int x2, .int x3] ([]) (fun u : Unit => []) (fun (r : Int64) (u : Unit) => post r) := by
  refine Met.ofW (cc := cX4_tableauxOf) (maxL := 4) (ret := (some .long)) (by decide) rfl ?_
  intro p e s m args below meth c s₁ B hml hv
  obtain ⟨rfl, hP, hG, hD0⟩ := hv
  have C0 : xM p s m ([.int x0, .int x1, .int x2, .int x3] : List Value).toArray meth c cX4_tableauxOf 4 RX4 (some .long) wsX4_tableauxOf := ⟨B.exec, B.bytes, B.returns, atoms_spec (ws := wsX4_tableauxOf) B.pre, findClass_of_methodNamed B.named, B.notSynchronized, hml⟩
  obtain ⟨hx, hb, hr, hts, hown, hlocks, hml⟩ := id C0
  have hD := xSelf hD0
  have hS : va_S (xIn ([])) s.heap s.heap [] := va_S.rf
  generalize xIn ([]) = A at hD hS ⊢
  have hl := lv_entry ([.int x0, .int x1, .int x2, .int x3]) (n := 4) (Nat.le_of_ble_eq_true rfl)
  rw [lg_entry_eq]
  generalize (lg_sl ([.int x0, .int x1, .int x2, .int x3]) ++ List.replicate (4 - (lg_sl ([.int x0, .int x1, .int x2, .int x3])).length) Slot.unset).toArray = ls at hl ⊢
  have hl : lv_has ls 4 [(0, .int x0), (1, .int x1), (2, .int x2), (3, .int x3)] := hl
  unfold p_X4_tableauxOf at hf
  refine lv_iload_n hx hb dX4_tableauxOf_0 rfl (lv_at hl 0 rfl) ?_
  refine lv_iconst (v := 1) hx hb dX4_tableauxOf_1 (by decide) ?_
  refine lv_icmp_ne (tgt := 7) hx hb dX4_tableauxOf_2 (by decide) (fun c_1 => ?_) (fun c_1 => ?_)
  · have hf := hf.2 c_1
    refine lv_iload_n hx hb dX4_tableauxOf_7 rfl (lv_at hl 0 rfl) ?_
    refine lv_iconst (v := 2) hx hb dX4_tableauxOf_8 (by decide) ?_
    refine lv_icmp_ne (tgt := 19) hx hb dX4_tableauxOf_9 (by decide) (fun c_2 => ?_) (fun c_2 => ?_)
    · have hf := hf.2 c_2
      refine lv_iload_n hx hb dX4_tableauxOf_19 rfl (lv_at hl 1 rfl) ?_
      refine lv_iload_n hx hb dX4_tableauxOf_20 rfl (lv_at hl 2 rfl) ?_
      refine lv_isub hx hb dX4_tableauxOf_21 ?_
      refine lv_iconst (v := 1) hx hb dX4_tableauxOf_22 (by decide) ?_
      refine lv_iadd hx hb dX4_tableauxOf_23 ?_
      refine lv_i2l (v := ((x1 - x2) + 1).toInt64) hx hb dX4_tableauxOf_24 rfl ?_
      refine lv_iload_n hx hb dX4_tableauxOf_25 rfl (lv_at hl 2 rfl) ?_
      refine lv_iload_n hx hb dX4_tableauxOf_26 rfl (lv_at hl 3 rfl) ?_
      refine lv_isub hx hb dX4_tableauxOf_27 ?_
      refine lv_iconst (v := 1) hx hb dX4_tableauxOf_28 (by decide) ?_
      refine lv_iadd hx hb dX4_tableauxOf_29 ?_
      refine lv_i2l (v := ((x2 - x3) + 1).toInt64) hx hb dX4_tableauxOf_30 rfl ?_
      refine lv_lmul hx hb dX4_tableauxOf_31 ?_
      refine lv_iload_n hx hb dX4_tableauxOf_32 rfl (lv_at hl 1 rfl) ?_
      refine lv_iload_n hx hb dX4_tableauxOf_33 rfl (lv_at hl 3 rfl) ?_
      refine lv_isub hx hb dX4_tableauxOf_34 ?_
      refine lv_iconst (v := 2) hx hb dX4_tableauxOf_35 (by decide) ?_
      refine lv_iadd hx hb dX4_tableauxOf_36 ?_
      refine lv_i2l (v := ((x1 - x3) + 2).toInt64) hx hb dX4_tableauxOf_37 rfl ?_
      refine lv_lmul hx hb dX4_tableauxOf_38 ?_
      refine lv_ldc2 (v := 2) hx hb hown (hts _ mb_X4_tableauxOf_cl233) dX4_tableauxOf_39 ?_
      obtain ⟨h_3, hf⟩ := hf
      refine lv_ldiv hx hb dX4_tableauxOf_42 h_3 ?_
      exact W.lret (v := ((((((x1 - x2) + 1).toInt64) * (((x2 - x3) + 1).toInt64)) * (((x1 - x3) + 2).toInt64)) / 2)) hx hb hr (fun t ht hW => ⟨⟨((((((x1 - x2) + 1).toInt64) * (((x2 - x3) + 1).toInt64)) * (((x1 - x3) + 2).toInt64)) / 2), (), rfl, hf, xHp ht hP⟩, hS.F ht⟩) hS.2.2 dX4_tableauxOf_43 hlocks
    · have hf := hf.1 c_2
      refine lv_iload_n hx hb dX4_tableauxOf_12 rfl (lv_at hl 1 rfl) ?_
      refine lv_iload_n hx hb dX4_tableauxOf_13 rfl (lv_at hl 2 rfl) ?_
      refine lv_isub hx hb dX4_tableauxOf_14 ?_
      refine lv_iconst (v := 1) hx hb dX4_tableauxOf_15 (by decide) ?_
      refine lv_iadd hx hb dX4_tableauxOf_16 ?_
      refine lv_i2l (v := ((x1 - x2) + 1).toInt64) hx hb dX4_tableauxOf_17 rfl ?_
      exact W.lret (v := (((x1 - x2) + 1).toInt64)) hx hb hr (fun t ht hW => ⟨⟨(((x1 - x2) + 1).toInt64), (), rfl, hf, xHp ht hP⟩, hS.F ht⟩) hS.2.2 dX4_tableauxOf_18 hlocks
  · have hf := hf.1 c_1
    refine lv_lconst (v := 1) hx hb dX4_tableauxOf_5 (by decide) ?_
    exact W.lret (v := 1) hx hb hr (fun t ht hW => ⟨⟨(1 : Int64), (), rfl, hf, xHp ht hP⟩, hS.F ht⟩) hS.2.2 dX4_tableauxOf_6 hlocks

def p_X4_countByShapes_57 (x0 : Int32) (x1 : Int32) (x2 : Int32) (post : Int64 → Prop) (k12 : Int32 → Int64 → Int32 → Prop) (k34 : Int32 → Int64 → Int32 → Int32 → Int32 → Prop) : Nat → Int32 → Int64 → Int32 → Int32 → Int32 → Int32 → Int32 → Prop
  | 0, _, _, _, _, _, _, _ => False
  | n + 1, x3, x4, x6, x7, x8, x9, x10 => ((x9 < x10 → k34 x3 x4 x6 x7 (x8 + 1)) ∧ (¬ x9 < x10 → p_X4_tableauxOf x0 x6 x8 x10 (fun r_6 => p_X4_tableauxOf x1 x6 x8 x10 (fun r_7 => p_X4_countByShapes_57 x0 x1 x2 post k12 k34 n x3 (x4 + ((r_6 * r_7) <<< (((((x2 * x3) - x6) - x8) - x10).toInt64 &&& 63))) x6 x7 x8 x9 (x10 + 1)))))
def p_X4_countByShapes_52 (x0 : Int32) (x1 : Int32) (x2 : Int32) (post : Int64 → Prop) (k12 : Int32 → Int64 → Int32 → Prop) (k34 : Int32 → Int64 → Int32 → Int32 → Int32 → Prop) (x3 : Int32) (x4 : Int64) (x6 : Int32) (x7 : Int32) (x8 : Int32) (s0 : Int32) : Prop := (∃ n_8, p_X4_countByShapes_57 x0 x1 x2 post k12 k34 n_8 x3 x4 x6 x7 x8 s0 0)
def p_X4_countByShapes_34 (x0 : Int32) (x1 : Int32) (x2 : Int32) (post : Int64 → Prop) (k12 : Int32 → Int64 → Int32 → Prop) : Nat → Int32 → Int64 → Int32 → Int32 → Int32 → Prop
  | 0, _, _, _, _, _ => False
  | n + 1, x3, x4, x6, x7, x8 => ((x7 < x8 → k12 x3 x4 (x6 + 1)) ∧ (¬ x7 < x8 → ((x3 ≤ 2 → p_X4_countByShapes_52 x0 x1 x2 post k12 (fun x3 x4 x6 x7 x8 => p_X4_countByShapes_34 x0 x1 x2 post k12 n x3 x4 x6 x7 x8) x3 x4 x6 x7 x8 0) ∧ (¬ x3 ≤ 2 → p_X4_countByShapes_52 x0 x1 x2 post k12 (fun x3 x4 x6 x7 x8 => p_X4_countByShapes_34 x0 x1 x2 post k12 n x3 x4 x6 x7 x8) x3 x4 x6 x7 x8 x8))))
def p_X4_countByShapes_29 (x0 : Int32) (x1 : Int32) (x2 : Int32) (post : Int64 → Prop) (k12 : Int32 → Int64 → Int32 → Prop) (x3 : Int32) (x4 : Int64) (x6 : Int32) (s0 : Int32) : Prop := (∃ n_9, p_X4_countByShapes_34 x0 x1 x2 post k12 n_9 x3 x4 x6 s0 0)
def p_X4_countByShapes_12 (x0 : Int32) (x1 : Int32) (x2 : Int32) (post : Int64 → Prop) : Nat → Int32 → Int64 → Int32 → Prop
  | 0, _, _, _ => False
  | n + 1, x3, x4, x6 => ((x2 < x6 → post x4) ∧ (¬ x2 < x6 → ((x3 ≤ 1 → p_X4_countByShapes_29 x0 x1 x2 post (fun x3 x4 x6 => p_X4_countByShapes_12 x0 x1 x2 post n x3 x4 x6) x3 x4 x6 0) ∧ (¬ x3 ≤ 1 → p_X4_countByShapes_29 x0 x1 x2 post (fun x3 x4 x6 => p_X4_countByShapes_12 x0 x1 x2 post n x3 x4 x6) x3 x4 x6 x6))))
def p_X4_countByShapes (x0 : Int32) (x1 : Int32) (x2 : Int32) (post : Int64 → Prop) : Prop := (∃ n_10, p_X4_countByShapes_12 x0 x1 x2 post n_10 (if x1 < x0 then x1 else x0) 0 0)
theorem mb_X4_countByShapes_mc_min : Cond.code Lib.Math.min.name Lib.Math.min.code 2 (some .int) ∈ wsX4_countByShapes := by decide +kernel
theorem mb_X4_countByShapes_mi : Cond.initialized "java/lang/Math" ∈ wsX4_countByShapes := by decide +kernel
theorem mb_X4_countByShapes_ml166 : Cond.methodLink RX4 166 Lib.Math.min.name ∈ wsX4_countByShapes := by decide +kernel
theorem mb_X4_countByShapes_ms_min : Cond.static Lib.Math.min.name ∈ wsX4_countByShapes := by decide +kernel
set_option maxHeartbeats 4000000 in
set_option maxRecDepth 100000 in
theorem k_X4_countByShapes_57 {p : Program} {l : Launch} {e : Env} {s : State} {m : MethodId} {args : Array Value} {below : List Frame} {meth : Method} {c : Code} {A : Nat → Prop} {D : va_G} {k : Nat → ClassId} {x0 : Int32} {x1 : Int32} {x2 : Int32} (C0 : xM p s m args meth c cX4_countByShapes 13 RX4 (some .long) wsX4_countByShapes) (hG : xG D k s) {post : Int64 → Prop} {k12 : Int32 → Int64 → Int32 → Prop} (hk12 : ∀ (x3 : Int32) (x4 : Int64) (x6 : Int32) (H : Heap) (locs : List Loc) (ls : Array Slot), k12 x3 x4 x6 → va_P D vwCl ([]) H → va_D A ([]) → va_S A s.heap H locs → lv_has ls 13 [(0, .int x0), (1, .int x1), (2, .int x2), (3, .int x3), (4, .long x4), (6, .int x6)] → W p l e ({ frames := 1, cells := 0, slots := 0, locals := 24 }) s m args below meth c H locs 0 0 (MQ below (va_Ql (fun (r : Int64) (u : Unit) => post r) (fun u t => va_P D vwCl ([]) t.heap) A) args s 0 0 A) (F0 m 12 ls [])) {k34 : Int32 → Int64 → Int32 → Int32 → Int32 → Prop} (hk34 : ∀ (x3 : Int32) (x4 : Int64) (x6 : Int32) (x7 : Int32) (x8 : Int32) (H : Heap) (locs : List Loc) (ls : Array Slot), k34 x3 x4 x6 x7 x8 → va_P D vwCl ([]) H → va_D A ([]) → va_S A s.heap H locs → lv_has ls 13 [(0, .int x0), (1, .int x1), (2, .int x2), (3, .int x3), (4, .long x4), (6, .int x6), (7, .int x7), (8, .int x8)] → W p l e ({ frames := 1, cells := 0, slots := 0, locals := 24 }) s m args below meth c H locs 0 0 (MQ below (va_Ql (fun (r : Int64) (u : Unit) => post r) (fun u t => va_P D vwCl ([]) t.heap) A) args s 0 0 A) (F0 m 34 ls [])) : ∀ (n : Nat) (x3 : Int32) (x4 : Int64) (x6 : Int32) (x7 : Int32) (x8 : Int32) (x9 : Int32) (x10 : Int32) (H : Heap) (locs : List Loc) (ls : Array Slot), p_X4_countByShapes_57 x0 x1 x2 post k12 k34 n x3 x4 x6 x7 x8 x9 x10 → va_P D vwCl ([]) H → va_D A ([]) → va_S A s.heap H locs → lv_has ls 13 [(0, .int x0), (1, .int x1), (2, .int x2), (3, .int x3), (4, .long x4), (6, .int x6), (7, .int x7), (8, .int x8), (9, .int x9), (10, .int x10)] → W p l e ({ frames := 1, cells := 0, slots := 0, locals := 24 }) s m args below meth c H locs 0 0 (MQ below (va_Ql (fun (r : Int64) (u : Unit) => post r) (fun u t => va_P D vwCl ([]) t.heap) A) args s 0 0 A) (F0 m 57 ls []) := by
  obtain ⟨hx, hb, hr, hts, hown, hlocks, hml⟩ := id C0
  intro n
  induction n with
  | zero =>
    intro x3 x4 x6 x7 x8 x9 x10 H locs ls hf
    exact False.elim hf
  | succ n ih =>
    intro x3 x4 x6 x7 x8 x9 x10 H locs ls hf hP hD hS hl
    unfold p_X4_countByShapes_57 at hf
    refine lv_iload hx hb dX4_countByShapes_57 (lv_at hl 9 rfl) ?_
    refine lv_iload hx hb dX4_countByShapes_59 (lv_at hl 8 rfl) ?_
    refine lv_icmp_gt (tgt := 113) hx hb dX4_countByShapes_61 (by decide) (fun c_5 => ?_) (fun c_5 => ?_)
    · have hf := hf.1 c_5
      refine lv_iinc (v := x8 + 1) (lv' := [(8, .int (x8 + 1)), (0, .int x0), (1, .int x1), (2, .int x2), (3, .int x3), (4, .long x4), (6, .int x6), (7, .int x7), (9, .int x9), (10, .int x10)]) hx hb dX4_countByShapes_113 hl (k := 7) rfl rfl (by decide) rfl (fun ls hl => ?_)
      refine lv_goto (tgt := 34) hx hb dX4_countByShapes_116 (by decide) ?_
      exact hk34 x3 x4 x6 x7 (x8 + 1) _ _ _ hf hP hD hS (lv_sub hl [1, 2, 3, 4, 5, 6, 7, 0] rfl)
    · have hf := hf.2 c_5
      refine lv_iload_n hx hb dX4_countByShapes_64 rfl (lv_at hl 0 rfl) ?_
      refine lv_iload hx hb dX4_countByShapes_65 (lv_at hl 5 rfl) ?_
      refine lv_iload hx hb dX4_countByShapes_67 (lv_at hl 7 rfl) ?_
      refine lv_iload hx hb dX4_countByShapes_69 (lv_at hl 9 rfl) ?_
      have hp : xPerm ([]) (([]) ++ ([])) := (List.Perm.refl _)
      refine xCallL (w := []) (r := []) (va_runS (As := [.int x0, .int x6, .int x8, .int x10]) (rest := []) ⟨hx, hb, hml, hown, hts⟩ (c_X4_tableauxOf x0 x6 x8 x10 hf) (va_cwS 4 hts gX4_countByShapes_X4_tableauxOf rfl rfl rfl (by decide +kernel) ⟨Nat.le_of_ble_eq_true rfl, Nat.le_of_ble_eq_true rfl⟩) (xPreS hG hP hD hp) rfl rfl hl.1 rfl (lv_room (Nat.le_of_ble_eq_true rfl)) dX4_countByShapes_71 ⟨Nat.zero_le _, Nat.zero_le _⟩) hP hD hS hp (fun _ => rfl) (fun r_6 _ H locs hf hP hD hS => ?_)
      have hP : va_P D vwCl ([]) H := hP
      have hD : va_D A ([]) := hD
      refine lv_iload_n hx hb dX4_countByShapes_74 rfl (lv_at hl 1 rfl) ?_
      refine lv_iload hx hb dX4_countByShapes_75 (lv_at hl 5 rfl) ?_
      refine lv_iload hx hb dX4_countByShapes_77 (lv_at hl 7 rfl) ?_
      refine lv_iload hx hb dX4_countByShapes_79 (lv_at hl 9 rfl) ?_
      have hp : xPerm ([]) (([]) ++ ([])) := (List.Perm.refl _)
      refine xCallL (w := []) (r := []) (va_runS (As := [.int x1, .int x6, .int x8, .int x10]) (rest := [.long r_6]) ⟨hx, hb, hml, hown, hts⟩ (c_X4_tableauxOf x1 x6 x8 x10 hf) (va_cwS 4 hts gX4_countByShapes_X4_tableauxOf rfl rfl rfl (by decide +kernel) ⟨Nat.le_of_ble_eq_true rfl, Nat.le_of_ble_eq_true rfl⟩) (xPreS hG hP hD hp) rfl rfl hl.1 rfl (lv_room (Nat.le_of_ble_eq_true rfl)) dX4_countByShapes_81 ⟨Nat.zero_le _, Nat.zero_le _⟩) hP hD hS hp (fun _ => rfl) (fun r_7 _ H locs hf hP hD hS => ?_)
      have hP : va_P D vwCl ([]) H := hP
      have hD : va_D A ([]) := hD
      refine lv_lmul hx hb dX4_countByShapes_84 ?_
      refine lv_lstore (lv' := [(11, .long (r_6 * r_7)), (0, .int x0), (1, .int x1), (2, .int x2), (3, .int x3), (4, .long x4), (6, .int x6), (7, .int x7), (8, .int x8), (9, .int x9), (10, .int x10)]) hx hb dX4_countByShapes_85 hl (by decide) rfl (fun ls hl => ?_)
      refine lv_lload hx hb dX4_countByShapes_87 (lv_at hl 5 rfl) ?_
      refine lv_lload hx hb dX4_countByShapes_89 (lv_at hl 0 rfl) ?_
      refine lv_iload_n hx hb dX4_countByShapes_91 rfl (lv_at hl 3 rfl) ?_
      refine lv_iload_n hx hb dX4_countByShapes_92 rfl (lv_at hl 4 rfl) ?_
      refine lv_imul hx hb dX4_countByShapes_93 ?_
      refine lv_iload hx hb dX4_countByShapes_94 (lv_at hl 6 rfl) ?_
      refine lv_isub hx hb dX4_countByShapes_96 ?_
      refine lv_iload hx hb dX4_countByShapes_97 (lv_at hl 8 rfl) ?_
      refine lv_isub hx hb dX4_countByShapes_99 ?_
      refine lv_iload hx hb dX4_countByShapes_100 (lv_at hl 10 rfl) ?_
      refine lv_isub hx hb dX4_countByShapes_102 ?_
      refine lv_lshl (v := (r_6 * r_7) <<< (((((x2 * x3) - x6) - x8) - x10).toInt64 &&& 63)) hx hb dX4_countByShapes_103 rfl ?_
      refine lv_ladd hx hb dX4_countByShapes_104 ?_
      refine lv_lstore (lv' := [(4, .long (x4 + ((r_6 * r_7) <<< (((((x2 * x3) - x6) - x8) - x10).toInt64 &&& 63)))), (11, .long (r_6 * r_7)), (0, .int x0), (1, .int x1), (2, .int x2), (3, .int x3), (6, .int x6), (7, .int x7), (8, .int x8), (9, .int x9), (10, .int x10)]) hx hb dX4_countByShapes_105 hl (by decide) rfl (fun ls hl => ?_)
      refine lv_iinc (v := x10 + 1) (lv' := [(10, .int (x10 + 1)), (4, .long (x4 + ((r_6 * r_7) <<< (((((x2 * x3) - x6) - x8) - x10).toInt64 &&& 63)))), (11, .long (r_6 * r_7)), (0, .int x0), (1, .int x1), (2, .int x2), (3, .int x3), (6, .int x6), (7, .int x7), (8, .int x8), (9, .int x9)]) hx hb dX4_countByShapes_107 hl (k := 10) rfl rfl (by decide) rfl (fun ls hl => ?_)
      refine lv_goto (tgt := 57) hx hb dX4_countByShapes_110 (by decide) ?_
      exact ih x3 (x4 + ((r_6 * r_7) <<< (((((x2 * x3) - x6) - x8) - x10).toInt64 &&& 63))) x6 x7 x8 x9 (x10 + 1) _ _ _ hf hP hD hS (lv_sub hl [3, 4, 5, 6, 1, 7, 8, 9, 10, 0] rfl)
set_option maxHeartbeats 4000000 in
set_option maxRecDepth 100000 in
theorem k_X4_countByShapes_52 {p : Program} {l : Launch} {e : Env} {s : State} {m : MethodId} {args : Array Value} {below : List Frame} {meth : Method} {c : Code} {A : Nat → Prop} {D : va_G} {k : Nat → ClassId} {x0 : Int32} {x1 : Int32} {x2 : Int32} (C0 : xM p s m args meth c cX4_countByShapes 13 RX4 (some .long) wsX4_countByShapes) (hG : xG D k s) {post : Int64 → Prop} {k12 : Int32 → Int64 → Int32 → Prop} (hk12 : ∀ (x3 : Int32) (x4 : Int64) (x6 : Int32) (H : Heap) (locs : List Loc) (ls : Array Slot), k12 x3 x4 x6 → va_P D vwCl ([]) H → va_D A ([]) → va_S A s.heap H locs → lv_has ls 13 [(0, .int x0), (1, .int x1), (2, .int x2), (3, .int x3), (4, .long x4), (6, .int x6)] → W p l e ({ frames := 1, cells := 0, slots := 0, locals := 24 }) s m args below meth c H locs 0 0 (MQ below (va_Ql (fun (r : Int64) (u : Unit) => post r) (fun u t => va_P D vwCl ([]) t.heap) A) args s 0 0 A) (F0 m 12 ls [])) {k34 : Int32 → Int64 → Int32 → Int32 → Int32 → Prop} (hk34 : ∀ (x3 : Int32) (x4 : Int64) (x6 : Int32) (x7 : Int32) (x8 : Int32) (H : Heap) (locs : List Loc) (ls : Array Slot), k34 x3 x4 x6 x7 x8 → va_P D vwCl ([]) H → va_D A ([]) → va_S A s.heap H locs → lv_has ls 13 [(0, .int x0), (1, .int x1), (2, .int x2), (3, .int x3), (4, .long x4), (6, .int x6), (7, .int x7), (8, .int x8)] → W p l e ({ frames := 1, cells := 0, slots := 0, locals := 24 }) s m args below meth c H locs 0 0 (MQ below (va_Ql (fun (r : Int64) (u : Unit) => post r) (fun u t => va_P D vwCl ([]) t.heap) A) args s 0 0 A) (F0 m 34 ls [])) : ∀ (x3 : Int32) (x4 : Int64) (x6 : Int32) (x7 : Int32) (x8 : Int32) (s0 : Int32) (H : Heap) (locs : List Loc) (ls : Array Slot), p_X4_countByShapes_52 x0 x1 x2 post k12 k34 x3 x4 x6 x7 x8 s0 → va_P D vwCl ([]) H → va_D A ([]) → va_S A s.heap H locs → lv_has ls 13 [(0, .int x0), (1, .int x1), (2, .int x2), (3, .int x3), (4, .long x4), (6, .int x6), (7, .int x7), (8, .int x8)] → W p l e ({ frames := 1, cells := 0, slots := 0, locals := 24 }) s m args below meth c H locs 0 0 (MQ below (va_Ql (fun (r : Int64) (u : Unit) => post r) (fun u t => va_P D vwCl ([]) t.heap) A) args s 0 0 A) (F0 m 52 ls [.int s0]) := by
  obtain ⟨hx, hb, hr, hts, hown, hlocks, hml⟩ := id C0
  intro x3 x4 x6 x7 x8 s0 H locs ls hf hP hD hS hl
  unfold p_X4_countByShapes_52 at hf
  refine lv_istore (lv' := [(9, .int s0), (0, .int x0), (1, .int x1), (2, .int x2), (3, .int x3), (4, .long x4), (6, .int x6), (7, .int x7), (8, .int x8)]) hx hb dX4_countByShapes_52 hl (by decide) rfl (fun ls hl => ?_)
  refine lv_iconst (v := 0) hx hb dX4_countByShapes_54 (by decide) ?_
  refine lv_istore (lv' := [(10, .int 0), (9, .int s0), (0, .int x0), (1, .int x1), (2, .int x2), (3, .int x3), (4, .long x4), (6, .int x6), (7, .int x7), (8, .int x8)]) hx hb dX4_countByShapes_55 hl (by decide) rfl (fun ls hl => ?_)
  obtain ⟨n_8, hf⟩ := hf
  exact k_X4_countByShapes_57 C0 hG hk12 hk34 n_8 x3 x4 x6 x7 x8 s0 0 _ _ _ hf hP hD hS (lv_sub hl [2, 3, 4, 5, 6, 7, 8, 9, 1, 0] rfl)
set_option maxHeartbeats 4000000 in
set_option maxRecDepth 100000 in
theorem k_X4_countByShapes_34 {p : Program} {l : Launch} {e : Env} {s : State} {m : MethodId} {args : Array Value} {below : List Frame} {meth : Method} {c : Code} {A : Nat → Prop} {D : va_G} {k : Nat → ClassId} {x0 : Int32} {x1 : Int32} {x2 : Int32} (C0 : xM p s m args meth c cX4_countByShapes 13 RX4 (some .long) wsX4_countByShapes) (hG : xG D k s) {post : Int64 → Prop} {k12 : Int32 → Int64 → Int32 → Prop} (hk12 : ∀ (x3 : Int32) (x4 : Int64) (x6 : Int32) (H : Heap) (locs : List Loc) (ls : Array Slot), k12 x3 x4 x6 → va_P D vwCl ([]) H → va_D A ([]) → va_S A s.heap H locs → lv_has ls 13 [(0, .int x0), (1, .int x1), (2, .int x2), (3, .int x3), (4, .long x4), (6, .int x6)] → W p l e ({ frames := 1, cells := 0, slots := 0, locals := 24 }) s m args below meth c H locs 0 0 (MQ below (va_Ql (fun (r : Int64) (u : Unit) => post r) (fun u t => va_P D vwCl ([]) t.heap) A) args s 0 0 A) (F0 m 12 ls [])) : ∀ (n : Nat) (x3 : Int32) (x4 : Int64) (x6 : Int32) (x7 : Int32) (x8 : Int32) (H : Heap) (locs : List Loc) (ls : Array Slot), p_X4_countByShapes_34 x0 x1 x2 post k12 n x3 x4 x6 x7 x8 → va_P D vwCl ([]) H → va_D A ([]) → va_S A s.heap H locs → lv_has ls 13 [(0, .int x0), (1, .int x1), (2, .int x2), (3, .int x3), (4, .long x4), (6, .int x6), (7, .int x7), (8, .int x8)] → W p l e ({ frames := 1, cells := 0, slots := 0, locals := 24 }) s m args below meth c H locs 0 0 (MQ below (va_Ql (fun (r : Int64) (u : Unit) => post r) (fun u t => va_P D vwCl ([]) t.heap) A) args s 0 0 A) (F0 m 34 ls []) := by
  obtain ⟨hx, hb, hr, hts, hown, hlocks, hml⟩ := id C0
  intro n
  induction n with
  | zero =>
    intro x3 x4 x6 x7 x8 H locs ls hf
    exact False.elim hf
  | succ n ih =>
    intro x3 x4 x6 x7 x8 H locs ls hf hP hD hS hl
    unfold p_X4_countByShapes_34 at hf
    refine lv_iload hx hb dX4_countByShapes_34 (lv_at hl 7 rfl) ?_
    refine lv_iload hx hb dX4_countByShapes_36 (lv_at hl 6 rfl) ?_
    refine lv_icmp_gt (tgt := 119) hx hb dX4_countByShapes_38 (by decide) (fun c_3 => ?_) (fun c_3 => ?_)
    · have hf := hf.1 c_3
      refine lv_iinc (v := x6 + 1) (lv' := [(6, .int (x6 + 1)), (0, .int x0), (1, .int x1), (2, .int x2), (3, .int x3), (4, .long x4), (7, .int x7), (8, .int x8)]) hx hb dX4_countByShapes_119 hl (k := 5) rfl rfl (by decide) rfl (fun ls hl => ?_)
      refine lv_goto (tgt := 12) hx hb dX4_countByShapes_122 (by decide) ?_
      exact hk12 x3 x4 (x6 + 1) _ _ _ hf hP hD hS (lv_sub hl [1, 2, 3, 4, 5, 0] rfl)
    · have hf := hf.2 c_3
      refine lv_iload_n hx hb dX4_countByShapes_41 rfl (lv_at hl 3 rfl) ?_
      refine lv_iconst (v := 2) hx hb dX4_countByShapes_42 (by decide) ?_
      refine lv_icmp_le (tgt := 51) hx hb dX4_countByShapes_43 (by decide) (fun c_4 => ?_) (fun c_4 => ?_)
      · have hf := hf.1 c_4
        refine lv_iconst (v := 0) hx hb dX4_countByShapes_51 (by decide) ?_
        exact k_X4_countByShapes_52 C0 hG hk12 ih x3 x4 x6 x7 x8 0 _ _ _ hf hP hD hS (lv_sub hl [0, 1, 2, 3, 4, 5, 6, 7] rfl)
      · have hf := hf.2 c_4
        refine lv_iload hx hb dX4_countByShapes_46 (lv_at hl 7 rfl) ?_
        refine lv_goto (tgt := 52) hx hb dX4_countByShapes_48 (by decide) ?_
        exact k_X4_countByShapes_52 C0 hG hk12 ih x3 x4 x6 x7 x8 x8 _ _ _ hf hP hD hS (lv_sub hl [0, 1, 2, 3, 4, 5, 6, 7] rfl)
set_option maxHeartbeats 4000000 in
set_option maxRecDepth 100000 in
theorem k_X4_countByShapes_29 {p : Program} {l : Launch} {e : Env} {s : State} {m : MethodId} {args : Array Value} {below : List Frame} {meth : Method} {c : Code} {A : Nat → Prop} {D : va_G} {k : Nat → ClassId} {x0 : Int32} {x1 : Int32} {x2 : Int32} (C0 : xM p s m args meth c cX4_countByShapes 13 RX4 (some .long) wsX4_countByShapes) (hG : xG D k s) {post : Int64 → Prop} {k12 : Int32 → Int64 → Int32 → Prop} (hk12 : ∀ (x3 : Int32) (x4 : Int64) (x6 : Int32) (H : Heap) (locs : List Loc) (ls : Array Slot), k12 x3 x4 x6 → va_P D vwCl ([]) H → va_D A ([]) → va_S A s.heap H locs → lv_has ls 13 [(0, .int x0), (1, .int x1), (2, .int x2), (3, .int x3), (4, .long x4), (6, .int x6)] → W p l e ({ frames := 1, cells := 0, slots := 0, locals := 24 }) s m args below meth c H locs 0 0 (MQ below (va_Ql (fun (r : Int64) (u : Unit) => post r) (fun u t => va_P D vwCl ([]) t.heap) A) args s 0 0 A) (F0 m 12 ls [])) : ∀ (x3 : Int32) (x4 : Int64) (x6 : Int32) (s0 : Int32) (H : Heap) (locs : List Loc) (ls : Array Slot), p_X4_countByShapes_29 x0 x1 x2 post k12 x3 x4 x6 s0 → va_P D vwCl ([]) H → va_D A ([]) → va_S A s.heap H locs → lv_has ls 13 [(0, .int x0), (1, .int x1), (2, .int x2), (3, .int x3), (4, .long x4), (6, .int x6)] → W p l e ({ frames := 1, cells := 0, slots := 0, locals := 24 }) s m args below meth c H locs 0 0 (MQ below (va_Ql (fun (r : Int64) (u : Unit) => post r) (fun u t => va_P D vwCl ([]) t.heap) A) args s 0 0 A) (F0 m 29 ls [.int s0]) := by
  obtain ⟨hx, hb, hr, hts, hown, hlocks, hml⟩ := id C0
  intro x3 x4 x6 s0 H locs ls hf hP hD hS hl
  unfold p_X4_countByShapes_29 at hf
  refine lv_istore (lv' := [(7, .int s0), (0, .int x0), (1, .int x1), (2, .int x2), (3, .int x3), (4, .long x4), (6, .int x6)]) hx hb dX4_countByShapes_29 hl (by decide) rfl (fun ls hl => ?_)
  refine lv_iconst (v := 0) hx hb dX4_countByShapes_31 (by decide) ?_
  refine lv_istore (lv' := [(8, .int 0), (7, .int s0), (0, .int x0), (1, .int x1), (2, .int x2), (3, .int x3), (4, .long x4), (6, .int x6)]) hx hb dX4_countByShapes_32 hl (by decide) rfl (fun ls hl => ?_)
  obtain ⟨n_9, hf⟩ := hf
  exact k_X4_countByShapes_34 C0 hG hk12 n_9 x3 x4 x6 s0 0 _ _ _ hf hP hD hS (lv_sub hl [2, 3, 4, 5, 6, 7, 1, 0] rfl)
set_option maxHeartbeats 4000000 in
set_option maxRecDepth 100000 in
theorem k_X4_countByShapes_12 {p : Program} {l : Launch} {e : Env} {s : State} {m : MethodId} {args : Array Value} {below : List Frame} {meth : Method} {c : Code} {A : Nat → Prop} {D : va_G} {k : Nat → ClassId} {x0 : Int32} {x1 : Int32} {x2 : Int32} (C0 : xM p s m args meth c cX4_countByShapes 13 RX4 (some .long) wsX4_countByShapes) (hG : xG D k s) {post : Int64 → Prop} : ∀ (n : Nat) (x3 : Int32) (x4 : Int64) (x6 : Int32) (H : Heap) (locs : List Loc) (ls : Array Slot), p_X4_countByShapes_12 x0 x1 x2 post n x3 x4 x6 → va_P D vwCl ([]) H → va_D A ([]) → va_S A s.heap H locs → lv_has ls 13 [(0, .int x0), (1, .int x1), (2, .int x2), (3, .int x3), (4, .long x4), (6, .int x6)] → W p l e ({ frames := 1, cells := 0, slots := 0, locals := 24 }) s m args below meth c H locs 0 0 (MQ below (va_Ql (fun (r : Int64) (u : Unit) => post r) (fun u t => va_P D vwCl ([]) t.heap) A) args s 0 0 A) (F0 m 12 ls []) := by
  obtain ⟨hx, hb, hr, hts, hown, hlocks, hml⟩ := id C0
  intro n
  induction n with
  | zero =>
    intro x3 x4 x6 H locs ls hf
    exact False.elim hf
  | succ n ih =>
    intro x3 x4 x6 H locs ls hf hP hD hS hl
    unfold p_X4_countByShapes_12 at hf
    refine lv_iload hx hb dX4_countByShapes_12 (lv_at hl 5 rfl) ?_
    refine lv_iload_n hx hb dX4_countByShapes_14 rfl (lv_at hl 2 rfl) ?_
    refine lv_icmp_gt (tgt := 125) hx hb dX4_countByShapes_15 (by decide) (fun c_1 => ?_) (fun c_1 => ?_)
    · have hf := hf.1 c_1
      refine lv_lload hx hb dX4_countByShapes_125 (lv_at hl 4 rfl) ?_
      exact W.lret (v := x4) hx hb hr (fun t ht hW => ⟨⟨x4, (), rfl, hf, xHp ht hP⟩, hS.F ht⟩) hS.2.2 dX4_countByShapes_127 hlocks
    · have hf := hf.2 c_1
      refine lv_iload_n hx hb dX4_countByShapes_18 rfl (lv_at hl 3 rfl) ?_
      refine lv_iconst (v := 1) hx hb dX4_countByShapes_19 (by decide) ?_
      refine lv_icmp_le (tgt := 28) hx hb dX4_countByShapes_20 (by decide) (fun c_2 => ?_) (fun c_2 => ?_)
      · have hf := hf.1 c_2
        refine lv_iconst (v := 0) hx hb dX4_countByShapes_28 (by decide) ?_
        exact k_X4_countByShapes_29 C0 hG ih x3 x4 x6 0 _ _ _ hf hP hD hS (lv_sub hl [0, 1, 2, 3, 4, 5] rfl)
      · have hf := hf.2 c_2
        refine lv_iload hx hb dX4_countByShapes_23 (lv_at hl 5 rfl) ?_
        refine lv_goto (tgt := 29) hx hb dX4_countByShapes_25 (by decide) ?_
        exact k_X4_countByShapes_29 C0 hG ih x3 x4 x6 x6 _ _ _ hf hP hD hS (lv_sub hl [0, 1, 2, 3, 4, 5] rfl)
set_option maxHeartbeats 4000000 in
set_option maxRecDepth 100000 in
theorem c_X4_countByShapes {l : Launch} {D : va_G} {k : Nat → ClassId} (x0 : Int32) (x1 : Int32) (x2 : Int32) {post : Int64 → Prop} (hf : p_X4_countByShapes x0 x1 x2 post) : ctL l yX4_countByShapes wsX4_countByShapes ({ frames := 1, cells := 0, slots := 0, locals := 24 }) D k [.int x0, .int x1, .int x2] ([]) (fun u : Unit => []) (fun (r : Int64) (u : Unit) => post r) := by
  refine Met.ofW (cc := cX4_countByShapes) (maxL := 13) (ret := (some .long)) (by decide) rfl ?_
  intro p e s m args below meth c s₁ B hml hv
  obtain ⟨rfl, hP, hG, hD0⟩ := hv
  have C0 : xM p s m ([.int x0, .int x1, .int x2] : List Value).toArray meth c cX4_countByShapes 13 RX4 (some .long) wsX4_countByShapes := ⟨B.exec, B.bytes, B.returns, atoms_spec (ws := wsX4_countByShapes) B.pre, findClass_of_methodNamed B.named, B.notSynchronized, hml⟩
  obtain ⟨hx, hb, hr, hts, hown, hlocks, hml⟩ := id C0
  have hD := xSelf hD0
  have hS : va_S (xIn ([])) s.heap s.heap [] := va_S.rf
  generalize xIn ([]) = A at hD hS ⊢
  have hl := lv_entry ([.int x0, .int x1, .int x2]) (n := 13) (Nat.le_of_ble_eq_true rfl)
  rw [lg_entry_eq]
  generalize (lg_sl ([.int x0, .int x1, .int x2]) ++ List.replicate (13 - (lg_sl ([.int x0, .int x1, .int x2])).length) Slot.unset).toArray = ls at hl ⊢
  have hl : lv_has ls 13 [(0, .int x0), (1, .int x1), (2, .int x2)] := hl
  unfold p_X4_countByShapes at hf
  refine lv_iload_n hx hb dX4_countByShapes_0 rfl (lv_at hl 0 rfl) ?_
  refine lv_iload_n hx hb dX4_countByShapes_1 rfl (lv_at hl 1 rfl) ?_
  refine va_mmin hx hb (hml.trans hl.1.symm) hown (hts _ mb_X4_countByShapes_ml166) (hts _ mb_X4_countByShapes_ms_min) (hts _ mb_X4_countByShapes_mi) (hts _ mb_X4_countByShapes_mc_min) (Nat.le_of_ble_eq_true rfl) (Nat.le_of_ble_eq_true rfl) (Nat.zero_le _) (Nat.zero_le _) dX4_countByShapes_2 ?_
  refine lv_istore_n (lv' := [(3, .int (if x1 < x0 then x1 else x0)), (0, .int x0), (1, .int x1), (2, .int x2)]) hx hb dX4_countByShapes_5 rfl hl (by decide) rfl (fun ls hl => ?_)
  refine lv_lconst (v := 0) hx hb dX4_countByShapes_6 (by decide) ?_
  refine lv_lstore (lv' := [(4, .long 0), (3, .int (if x1 < x0 then x1 else x0)), (0, .int x0), (1, .int x1), (2, .int x2)]) hx hb dX4_countByShapes_7 hl (by decide) rfl (fun ls hl => ?_)
  refine lv_iconst (v := 0) hx hb dX4_countByShapes_9 (by decide) ?_
  refine lv_istore (lv' := [(6, .int 0), (4, .long 0), (3, .int (if x1 < x0 then x1 else x0)), (0, .int x0), (1, .int x1), (2, .int x2)]) hx hb dX4_countByShapes_10 hl (by decide) rfl (fun ls hl => ?_)
  obtain ⟨n_10, hf⟩ := hf
  exact k_X4_countByShapes_12 C0 hG n_10 (if x1 < x0 then x1 else x0) 0 0 _ _ _ hf hP hD hS (lv_sub hl [3, 4, 5, 2, 1, 0] rfl)

def p_X4_chance (x1 : Int32) (x2 : Int32) (x3 : Int32) (post : Int64 → Prop) : Prop := p_X4_isWithin x1 1 3 (fun r_1 => ((r_1 = 0 → post (-1)) ∧ (¬ r_1 = 0 → p_X4_isWithin x2 1 3 (fun r_3 => ((r_3 = 0 → post (-1)) ∧ (¬ r_3 = 0 → p_X4_isWithin x3 0 8 (fun r_5 => ((r_5 = 0 → post (-1)) ∧ (¬ r_5 = 0 → p_X4_countByShapes x1 x2 x3 (fun r_7 => post r_7))))))))))
theorem mb_X4_chance_cl121 : Cond.constantLong RX4 121 (-1) ∈ wsX4_chance := by decide +kernel
set_option maxHeartbeats 4000000 in
set_option maxRecDepth 100000 in
theorem c_X4_chance {l : Launch} {D : va_G} {k : Nat → ClassId} (b : Nat → Nat) (ag : Nat → Nat) (as : Nat → Nat) (ap : Nat → Nat) (aq : Nat → Nat) (aa : Nat → Nat) (ab : Nat → Nat) (M : Int32) (N : Int32) (C : Nat → Nat → Int32) (Gr : Nat → Nat → Int32) (Pr : Nat → Nat → Int64) (Pa : Nat → Nat → Int32) (I : Nat → Nat → Int64) (Ln : Nat → Int32) (Sz : Nat → Int32) (dr : Nat → Int32) (pR : Int32) (pP : Int32) (pL : Nat → Int32) (pN : Nat → Nat → Int32) (qR : Int32) (qP : Int32) (qL : Nat → Int32) (qN : Nat → Nat → Int32) (aR : Int32) (aP : Int32) (aL : Nat → Int32) (aN : Nat → Nat → Int32) (bR : Int32) (bP : Int32) (bL : Nat → Int32) (bN : Nat → Nat → Int32) (x1 : Int32) (x2 : Int32) (x3 : Int32) {post : Int64 → Prop} (hf : p_X4_chance x1 x2 x3 post) : ctL l yX4_chance wsX4_chance ({ frames := 2, cells := 0, slots := 0, locals := 56 }) D k [.ref (b 0), .int x1, .int x2, .int x3] (wX k b ag as ap aq aa ab M N C Gr Pr Pa I Ln Sz dr pR pP pL pN qR qP qL qN aR aP aL aN bR bP bL bN) (fun u : Unit => wX k b ag as ap aq aa ab M N C Gr Pr Pa I Ln Sz dr pR pP pL pN qR qP qL qN aR aP aL aN bR bP bL bN) (fun (r : Int64) (u : Unit) => post r) := by
  refine Met.ofW (cc := cX4_chance) (maxL := 4) (ret := (some .long)) (by decide) rfl ?_
  intro p e s m args below meth c s₁ B hml hv
  obtain ⟨rfl, hP, hG, hD0⟩ := hv
  have C0 : xM p s m ([.ref (b 0), .int x1, .int x2, .int x3] : List Value).toArray meth c cX4_chance 4 RX4 (some .long) wsX4_chance := ⟨B.exec, B.bytes, B.returns, atoms_spec (ws := wsX4_chance) B.pre, findClass_of_methodNamed B.named, B.notSynchronized, hml⟩
  obtain ⟨hx, hb, hr, hts, hown, hlocks, hml⟩ := id C0
  have hD := xSelf hD0
  have hS : va_S (xIn (wX k b ag as ap aq aa ab M N C Gr Pr Pa I Ln Sz dr pR pP pL pN qR qP qL qN aR aP aL aN bR bP bL bN)) s.heap s.heap [] := va_S.rf
  generalize xIn (wX k b ag as ap aq aa ab M N C Gr Pr Pa I Ln Sz dr pR pP pL pN qR qP qL qN aR aP aL aN bR bP bL bN) = A at hD hS ⊢
  have hl := lv_entry ([.ref (b 0), .int x1, .int x2, .int x3]) (n := 4) (Nat.le_of_ble_eq_true rfl)
  rw [lg_entry_eq]
  generalize (lg_sl ([.ref (b 0), .int x1, .int x2, .int x3]) ++ List.replicate (4 - (lg_sl ([.ref (b 0), .int x1, .int x2, .int x3])).length) Slot.unset).toArray = ls at hl ⊢
  have hl : lv_has ls 4 [(0, .ref (b 0)), (1, .int x1), (2, .int x2), (3, .int x3)] := hl
  unfold p_X4_chance at hf
  refine lv_iload_n hx hb dX4_chance_0 rfl (lv_at hl 1 rfl) ?_
  refine lv_iconst (v := 1) hx hb dX4_chance_1 (by decide) ?_
  refine lv_iconst (v := 3) hx hb dX4_chance_2 (by decide) ?_
  have hp : xPerm (wX k b ag as ap aq aa ab M N C Gr Pr Pa I Ln Sz dr pR pP pL pN qR qP qL qN aR aP aL aN bR bP bL bN) (([]) ++ (wX k b ag as ap aq aa ab M N C Gr Pr Pa I Ln Sz dr pR pP pL pN qR qP qL qN aR aP aL aN bR bP bL bN)) := (List.Perm.refl _)
  refine xCallI (w := []) (r := wX k b ag as ap aq aa ab M N C Gr Pr Pa I Ln Sz dr pR pP pL pN qR qP qL qN aR aP aL aN bR bP bL bN) (va_runS (As := [.int x1, .int 1, .int 3]) (rest := []) ⟨hx, hb, hml, hown, hts⟩ (c_X4_isWithin x1 1 3 hf) (va_cwS 3 hts gX4_chance_X4_isWithin rfl rfl rfl (by decide +kernel) ⟨Nat.le_of_ble_eq_true rfl, Nat.le_of_ble_eq_true rfl⟩) (xPreS hG hP hD hp) rfl rfl hl.1 rfl (lv_room (Nat.le_of_ble_eq_true rfl)) dX4_chance_3 ⟨Nat.zero_le _, Nat.zero_le _⟩) hP hD hS hp (fun _ => rfl) (fun r_1 _ H locs hf hP hD hS => ?_)
  have hP : va_P D vwCl (wX k b ag as ap aq aa ab M N C Gr Pr Pa I Ln Sz dr pR pP pL pN qR qP qL qN aR aP aL aN bR bP bL bN) H := hP
  have hD : va_D A (wX k b ag as ap aq aa ab M N C Gr Pr Pa I Ln Sz dr pR pP pL pN qR qP qL qN aR aP aL aN bR bP bL bN) := hD
  refine lv_if_eq (tgt := 28) hx hb dX4_chance_6 (by decide) (fun c_2 => ?_) (fun c_2 => ?_)
  · have hf := hf.1 c_2
    refine lv_ldc2 (v := (-1)) hx hb hown (hts _ mb_X4_chance_cl121) dX4_chance_28 ?_
    exact W.lret (v := (-1)) hx hb hr (fun t ht hW => ⟨⟨((-1) : Int64), (), rfl, hf, xHp ht hP⟩, hS.F ht⟩) hS.2.2 dX4_chance_31 hlocks
  · have hf := hf.2 c_2
    refine lv_iload_n hx hb dX4_chance_9 rfl (lv_at hl 2 rfl) ?_
    refine lv_iconst (v := 1) hx hb dX4_chance_10 (by decide) ?_
    refine lv_iconst (v := 3) hx hb dX4_chance_11 (by decide) ?_
    have hp : xPerm (wX k b ag as ap aq aa ab M N C Gr Pr Pa I Ln Sz dr pR pP pL pN qR qP qL qN aR aP aL aN bR bP bL bN) (([]) ++ (wX k b ag as ap aq aa ab M N C Gr Pr Pa I Ln Sz dr pR pP pL pN qR qP qL qN aR aP aL aN bR bP bL bN)) := (List.Perm.refl _)
    refine xCallI (w := []) (r := wX k b ag as ap aq aa ab M N C Gr Pr Pa I Ln Sz dr pR pP pL pN qR qP qL qN aR aP aL aN bR bP bL bN) (va_runS (As := [.int x2, .int 1, .int 3]) (rest := []) ⟨hx, hb, hml, hown, hts⟩ (c_X4_isWithin x2 1 3 hf) (va_cwS 3 hts gX4_chance_X4_isWithin rfl rfl rfl (by decide +kernel) ⟨Nat.le_of_ble_eq_true rfl, Nat.le_of_ble_eq_true rfl⟩) (xPreS hG hP hD hp) rfl rfl hl.1 rfl (lv_room (Nat.le_of_ble_eq_true rfl)) dX4_chance_12 ⟨Nat.zero_le _, Nat.zero_le _⟩) hP hD hS hp (fun _ => rfl) (fun r_3 _ H locs hf hP hD hS => ?_)
    have hP : va_P D vwCl (wX k b ag as ap aq aa ab M N C Gr Pr Pa I Ln Sz dr pR pP pL pN qR qP qL qN aR aP aL aN bR bP bL bN) H := hP
    have hD : va_D A (wX k b ag as ap aq aa ab M N C Gr Pr Pa I Ln Sz dr pR pP pL pN qR qP qL qN aR aP aL aN bR bP bL bN) := hD
    refine lv_if_eq (tgt := 28) hx hb dX4_chance_15 (by decide) (fun c_4 => ?_) (fun c_4 => ?_)
    · have hf := hf.1 c_4
      refine lv_ldc2 (v := (-1)) hx hb hown (hts _ mb_X4_chance_cl121) dX4_chance_28 ?_
      exact W.lret (v := (-1)) hx hb hr (fun t ht hW => ⟨⟨((-1) : Int64), (), rfl, hf, xHp ht hP⟩, hS.F ht⟩) hS.2.2 dX4_chance_31 hlocks
    · have hf := hf.2 c_4
      refine lv_iload_n hx hb dX4_chance_18 rfl (lv_at hl 3 rfl) ?_
      refine lv_iconst (v := 0) hx hb dX4_chance_19 (by decide) ?_
      refine lv_bipush (v := 8) hx hb dX4_chance_20 (by decide) ?_
      have hp : xPerm (wX k b ag as ap aq aa ab M N C Gr Pr Pa I Ln Sz dr pR pP pL pN qR qP qL qN aR aP aL aN bR bP bL bN) (([]) ++ (wX k b ag as ap aq aa ab M N C Gr Pr Pa I Ln Sz dr pR pP pL pN qR qP qL qN aR aP aL aN bR bP bL bN)) := (List.Perm.refl _)
      refine xCallI (w := []) (r := wX k b ag as ap aq aa ab M N C Gr Pr Pa I Ln Sz dr pR pP pL pN qR qP qL qN aR aP aL aN bR bP bL bN) (va_runS (As := [.int x3, .int 0, .int 8]) (rest := []) ⟨hx, hb, hml, hown, hts⟩ (c_X4_isWithin x3 0 8 hf) (va_cwS 3 hts gX4_chance_X4_isWithin rfl rfl rfl (by decide +kernel) ⟨Nat.le_of_ble_eq_true rfl, Nat.le_of_ble_eq_true rfl⟩) (xPreS hG hP hD hp) rfl rfl hl.1 rfl (lv_room (Nat.le_of_ble_eq_true rfl)) dX4_chance_22 ⟨Nat.zero_le _, Nat.zero_le _⟩) hP hD hS hp (fun _ => rfl) (fun r_5 _ H locs hf hP hD hS => ?_)
      have hP : va_P D vwCl (wX k b ag as ap aq aa ab M N C Gr Pr Pa I Ln Sz dr pR pP pL pN qR qP qL qN aR aP aL aN bR bP bL bN) H := hP
      have hD : va_D A (wX k b ag as ap aq aa ab M N C Gr Pr Pa I Ln Sz dr pR pP pL pN qR qP qL qN aR aP aL aN bR bP bL bN) := hD
      refine lv_if_ne (tgt := 32) hx hb dX4_chance_25 (by decide) (fun c_6 => ?_) (fun c_6 => ?_)
      · have hf := hf.2 c_6
        refine lv_iload_n hx hb dX4_chance_32 rfl (lv_at hl 1 rfl) ?_
        refine lv_iload_n hx hb dX4_chance_33 rfl (lv_at hl 2 rfl) ?_
        refine lv_iload_n hx hb dX4_chance_34 rfl (lv_at hl 3 rfl) ?_
        have hp : xPerm (wX k b ag as ap aq aa ab M N C Gr Pr Pa I Ln Sz dr pR pP pL pN qR qP qL qN aR aP aL aN bR bP bL bN) (([]) ++ (wX k b ag as ap aq aa ab M N C Gr Pr Pa I Ln Sz dr pR pP pL pN qR qP qL qN aR aP aL aN bR bP bL bN)) := (List.Perm.refl _)
        refine xCallL (w := []) (r := wX k b ag as ap aq aa ab M N C Gr Pr Pa I Ln Sz dr pR pP pL pN qR qP qL qN aR aP aL aN bR bP bL bN) (va_runS (As := [.int x1, .int x2, .int x3]) (rest := []) ⟨hx, hb, hml, hown, hts⟩ (c_X4_countByShapes x1 x2 x3 hf) (va_cwS 3 hts gX4_chance_X4_countByShapes rfl rfl rfl (by decide +kernel) ⟨Nat.le_of_ble_eq_true rfl, Nat.le_of_ble_eq_true rfl⟩) (xPreS hG hP hD hp) rfl rfl hl.1 rfl (lv_room (Nat.le_of_ble_eq_true rfl)) dX4_chance_35 ⟨Nat.zero_le _, Nat.zero_le _⟩) hP hD hS hp (fun _ => rfl) (fun r_7 _ H locs hf hP hD hS => ?_)
        have hP : va_P D vwCl (wX k b ag as ap aq aa ab M N C Gr Pr Pa I Ln Sz dr pR pP pL pN qR qP qL qN aR aP aL aN bR bP bL bN) H := hP
        have hD : va_D A (wX k b ag as ap aq aa ab M N C Gr Pr Pa I Ln Sz dr pR pP pL pN qR qP qL qN aR aP aL aN bR bP bL bN) := hD
        exact W.lret (v := r_7) hx hb hr (fun t ht hW => ⟨⟨r_7, (), rfl, hf, xHp ht hP⟩, hS.F ht⟩) hS.2.2 dX4_chance_38 hlocks
      · have hf := hf.1 c_6
        refine lv_ldc2 (v := (-1)) hx hb hown (hts _ mb_X4_chance_cl121) dX4_chance_28 ?_
        exact W.lret (v := (-1)) hx hb hr (fun t ht hW => ⟨⟨((-1) : Int64), (), rfl, hf, xHp ht hP⟩, hS.F ht⟩) hS.2.2 dX4_chance_31 hlocks
