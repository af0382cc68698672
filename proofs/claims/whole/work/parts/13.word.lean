theorem in_X3_tableau_X3 : ∀ w ∈ u_ws RX3 TX3 2, w ∈ wsX3_tableau := by decide +kernel
set_option maxHeartbeats 4000000 in
set_option maxRecDepth 100000 in
theorem c_X3_tableau_p {l : Launch} {D : va_G} {k : Nat → ClassId} (w : Nat) (ap aq : Nat → Nat) (pR pP : Int32) (pL : Nat → Int32) (pN : Nat → Nat → Int32) (qR qP : Int32) (qL : Nat → Int32) (qN : Nat → Nat → Int32) (x1 : Int32) (h1 : x1 = 0) : ctR l yX3_tableau wsX3_tableau ({ frames := 0, cells := 0, slots := 0, locals := 0 }) D k [.ref w, .int x1] (wW k w ap aq pR pP pL pN qR qP qL qN) (fun b => b = ap 0) := by
  refine Met.ofW (cc := cX3_tableau) (maxL := 2) (ret := (some (.object "GrowingCorners$Tableau"))) (by decide) rfl ?_
  intro p e s m args below meth c s₁ B hml hv
  obtain ⟨rfl, hP, hG, hD0⟩ := hv
  have hx := B.exec
  have hb := B.bytes
  have hr := B.returns
  have hts := atoms_spec (ws := wsX3_tableau) B.pre
  have hown : s.vm.findClass RX3 = some m.cls := findClass_of_methodNamed B.named
  have hlocks := B.notSynchronized
  have hD := xSelf hD0
  have hS : va_S (xIn (wW k w ap aq pR pP pL pN qR qP qL qN)) s.heap s.heap [] := va_S.rf
  generalize xIn (wW k w ap aq pR pP pL pN qR qP qL qN) = A at hD hS ⊢
  have hl := lv_entry ([.ref w, .int x1]) (n := 2) (Nat.le_of_ble_eq_true rfl)
  rw [lg_entry_eq]
  generalize (lg_sl ([.ref w, .int x1]) ++ List.replicate (2 - (lg_sl ([.ref w, .int x1])).length) Slot.unset).toArray = ls at hl ⊢
  have hl : lv_has ls 2 [(0, .ref w), (1, .int x1)] := hl
  refine lv_iload_n hx hb dX3_tableau_0 rfl (lv_at hl 1 rfl) ?_
  refine lv_if_ne (tgt := 11) hx hb dX3_tableau_1 (by decide) (fun c1 => ?_) (fun c1 => ?_)
  · exact absurd h1 c1
  · refine lv_aload_n hx hb dX3_tableau_4 rfl (lv_at hl 0 rfl) ?_
    refine va_get (D := D) (ci := 3) (C := RX3) (T := TX3) (N := 2) hx hb hts in_X3_tableau_X3 hown hG.1 hP 0 rfl rfl 0 (by decide) (hts (.fieldLink RX3 10 "GrowingCorners$Word" "p" "LGrowingCorners$Tableau;") (by decide +kernel)) (fun _ h9 => h9) rfl dX3_tableau_5 ?_
    refine lv_goto (tgt := 15) hx hb dX3_tableau_8 (by decide) ?_
    exact W.aret hx hb hr (Or.inl ⟨_, rfl⟩) (Or.inr ⟨_, rfl⟩) (fun t ht hW => ⟨⟨(), _, rfl, trivial, rfl, xHp ht hP⟩, hS.F ht⟩) hS.2.2 dX3_tableau_15 hlocks
set_option maxHeartbeats 4000000 in
set_option maxRecDepth 100000 in
theorem c_X3_tableau_q {l : Launch} {D : va_G} {k : Nat → ClassId} (w : Nat) (ap aq : Nat → Nat) (pR pP : Int32) (pL : Nat → Int32) (pN : Nat → Nat → Int32) (qR qP : Int32) (qL : Nat → Int32) (qN : Nat → Nat → Int32) (x1 : Int32) (h1 : ¬ x1 = 0) : ctR l yX3_tableau wsX3_tableau ({ frames := 0, cells := 0, slots := 0, locals := 0 }) D k [.ref w, .int x1] (wW k w ap aq pR pP pL pN qR qP qL qN) (fun b => b = aq 0) := by
  refine Met.ofW (cc := cX3_tableau) (maxL := 2) (ret := (some (.object "GrowingCorners$Tableau"))) (by decide) rfl ?_
  intro p e s m args below meth c s₁ B hml hv
  obtain ⟨rfl, hP, hG, hD0⟩ := hv
  have hx := B.exec
  have hb := B.bytes
  have hr := B.returns
  have hts := atoms_spec (ws := wsX3_tableau) B.pre
  have hown : s.vm.findClass RX3 = some m.cls := findClass_of_methodNamed B.named
  have hlocks := B.notSynchronized
  have hD := xSelf hD0
  have hS : va_S (xIn (wW k w ap aq pR pP pL pN qR qP qL qN)) s.heap s.heap [] := va_S.rf
  generalize xIn (wW k w ap aq pR pP pL pN qR qP qL qN) = A at hD hS ⊢
  have hl := lv_entry ([.ref w, .int x1]) (n := 2) (Nat.le_of_ble_eq_true rfl)
  rw [lg_entry_eq]
  generalize (lg_sl ([.ref w, .int x1]) ++ List.replicate (2 - (lg_sl ([.ref w, .int x1])).length) Slot.unset).toArray = ls at hl ⊢
  have hl : lv_has ls 2 [(0, .ref w), (1, .int x1)] := hl
  refine lv_iload_n hx hb dX3_tableau_0 rfl (lv_at hl 1 rfl) ?_
  refine lv_if_ne (tgt := 11) hx hb dX3_tableau_1 (by decide) (fun c1 => ?_) (fun c1 => ?_)
  · refine lv_aload_n hx hb dX3_tableau_11 rfl (lv_at hl 0 rfl) ?_
    refine va_get (D := D) (ci := 3) (C := RX3) (T := TX3) (N := 2) hx hb hts in_X3_tableau_X3 hown hG.1 hP 0 rfl rfl 1 (by decide) (hts (.fieldLink RX3 16 "GrowingCorners$Word" "q" "LGrowingCorners$Tableau;") (by decide +kernel)) (fun _ h9 => h9) rfl dX3_tableau_12 ?_
    exact W.aret hx hb hr (Or.inl ⟨_, rfl⟩) (Or.inr ⟨_, rfl⟩) (fun t ht hW => ⟨⟨(), _, rfl, trivial, rfl, xHp ht hP⟩, hS.F ht⟩) hS.2.2 dX3_tableau_15 hlocks
  · exact absurd c1 h1

def p_X3_letterCount (pP : Int32) (post : Int32 → Prop) : Prop := p_X2_placeCount pP (fun r_1 => post r_1)
theorem in_X3_letterCount_X3 : ∀ w ∈ u_ws RX3 TX3 2, w ∈ wsX3_letterCount := by decide +kernel
theorem lk_X3_letterCount_10 : Cond.fieldLink RX3 10 "GrowingCorners$Word" "p" "LGrowingCorners$Tableau;" ∈ wsX3_letterCount := by decide +kernel
set_option maxHeartbeats 4000000 in
set_option maxRecDepth 100000 in
theorem c_X3_letterCount {l : Launch} {D : va_G} {k : Nat → ClassId} (w : Nat) (ap : Nat → Nat) (aq : Nat → Nat) (pR : Int32) (pP : Int32) (pL : Nat → Int32) (pN : Nat → Nat → Int32) (qR : Int32) (qP : Int32) (qL : Nat → Int32) (qN : Nat → Nat → Int32) {post : Int32 → Prop} (hf : p_X3_letterCount pP post) : ctI l yX3_letterCount wsX3_letterCount ({ frames := 1, cells := 0, slots := 0, locals := 20 }) D k [.ref w] (wW k w ap aq pR pP pL pN qR qP qL qN) (fun u : Unit => wW k w ap aq pR pP pL pN qR qP qL qN) (fun (r : Int32) (u : Unit) => post r) := by
  refine Met.ofW (cc := cX3_letterCount) (maxL := 1) (ret := (some .int)) (by decide) rfl ?_
  intro p e s m args below meth c s₁ B hml hv
  obtain ⟨rfl, hP, hG, hD0⟩ := hv
  have C0 : xM p s m ([.ref w] : List Value).toArray meth c cX3_letterCount 1 RX3 (some .int) wsX3_letterCount := ⟨B.exec, B.bytes, B.returns, atoms_spec (ws := wsX3_letterCount) B.pre, findClass_of_methodNamed B.named, B.notSynchronized, hml⟩
  obtain ⟨hx, hb, hr, hts, hown, hlocks, hml⟩ := id C0
  have hD := xSelf hD0
  have hS : va_S (xIn (wW k w ap aq pR pP pL pN qR qP qL qN)) s.heap s.heap [] := va_S.rf
  generalize xIn (wW k w ap aq pR pP pL pN qR qP qL qN) = A at hD hS ⊢
  have hl := lv_entry ([.ref w]) (n := 1) (Nat.le_of_ble_eq_true rfl)
  rw [lg_entry_eq]
  generalize (lg_sl ([.ref w]) ++ List.replicate (1 - (lg_sl ([.ref w])).length) Slot.unset).toArray = ls at hl ⊢
  have hl : lv_has ls 1 [(0, .ref w)] := hl
  unfold p_X3_letterCount at hf
  refine lv_aload_n hx hb dX3_letterCount_0 rfl (lv_at hl 0 rfl) ?_
  refine va_get (D := D) (ci := 3) (C := RX3) (T := TX3) (N := 2) hx hb hts in_X3_letterCount_X3 hown hG.1 hP 0 rfl rfl 0 (by decide) (hts _ lk_X3_letterCount_10) (fun _ h9 => h9) rfl dX3_letterCount_1 ?_
  have hp : xPerm (wW k w ap aq pR pP pL pN qR qP qL qN) ((wT k ap pR pP pL pN) ++ ([((w, .inr (3, [.ref (ap 0), .ref (aq 0)])) : Nat × va_E)] ++ wT k aq qR qP qL qN)) := (xPermC fun _ x => by simp only [wW, List.count_append]; omega)
  refine xCallI (w := wT k ap pR pP pL pN) (r := [((w, .inr (3, [.ref (ap 0), .ref (aq 0)])) : Nat × va_E)] ++ wT k aq qR qP qL qN) (va_runV (As := []) (rest := []) ⟨hx, hb, hml, hown, hts⟩ (c_X2_placeCount ap pR pP pL pN hf) (cwV 0 hts gX3_letterCount_X2_placeCount rfl rfl rfl (by decide +kernel) ⟨Nat.le_of_ble_eq_true rfl, Nat.le_of_ble_eq_true rfl⟩) (xPreV hG hP hD hp (ci := 2) rfl (i := 0) rfl) rfl rfl hl.1 rfl (lv_room (Nat.le_of_ble_eq_true rfl)) dX3_letterCount_4 ⟨Nat.zero_le _, Nat.zero_le _⟩) hP hD hS hp (fun _ => wT_adr) (fun r_1 _ H locs hf hP hD hS => ?_)
  have hP : va_P D vwCl (wW k w ap aq pR pP pL pN qR qP qL qN) H := xP_perm (xPermC fun _ x => by simp only [wW, List.count_append]; omega) hP
  have hD : va_D A (wW k w ap aq pR pP pL pN qR qP qL qN) := xD_perm (xPermC fun _ x => by simp only [wW, List.count_append]; omega) hD
  exact W.iret (v := r_1) hx hb hr (fun t ht hW => ⟨⟨r_1, (), rfl, hf, xHp ht hP⟩, hS.F ht⟩) hS.2.2 dX3_letterCount_7 hlocks

def p_X3_forget (pR : Int32) (pP : Int32) (pL : Nat → Int32) (qR : Int32) (qP : Int32) (qL : Nat → Int32) (post : Int32 → Int32 → (Nat → Int32) → Int32 → Int32 → (Nat → Int32) → Prop) : Prop := p_X2_empty pR pP pL (fun R_1 P_2 L_3 => p_X2_empty qR qP qL (fun R_4 P_5 L_6 => post R_1 P_2 L_3 R_4 P_5 L_6))
theorem in_X3_forget_X3 : ∀ w ∈ u_ws RX3 TX3 2, w ∈ wsX3_forget := by decide +kernel
theorem lk_X3_forget_10 : Cond.fieldLink RX3 10 "GrowingCorners$Word" "p" "LGrowingCorners$Tableau;" ∈ wsX3_forget := by decide +kernel
theorem lk_X3_forget_16 : Cond.fieldLink RX3 16 "GrowingCorners$Word" "q" "LGrowingCorners$Tableau;" ∈ wsX3_forget := by decide +kernel
set_option maxHeartbeats 4000000 in
set_option maxRecDepth 100000 in
theorem c_X3_forget {l : Launch} {D : va_G} {k : Nat → ClassId} (w : Nat) (ap : Nat → Nat) (aq : Nat → Nat) (pR : Int32) (pP : Int32) (pL : Nat → Int32) (pN : Nat → Nat → Int32) (qR : Int32) (qP : Int32) (qL : Nat → Int32) (qN : Nat → Nat → Int32) {post : Int32 → Int32 → (Nat → Int32) → Int32 → Int32 → (Nat → Int32) → Prop} (hf : p_X3_forget pR pP pL qR qP qL post) : ctV l yX3_forget wsX3_forget ({ frames := 2, cells := 0, slots := 0, locals := 43 }) D k [.ref w] (wW k w ap aq pR pP pL pN qR qP qL qN) (fun u : Int32 × Int32 × (Nat → Int32) × Int32 × Int32 × (Nat → Int32) => wW k w ap aq (u.1) (u.2.1) (u.2.2.1) pN (u.2.2.2.1) (u.2.2.2.2.1) (u.2.2.2.2.2) qN) (fun (u : Int32 × Int32 × (Nat → Int32) × Int32 × Int32 × (Nat → Int32)) => post u.1 u.2.1 u.2.2.1 u.2.2.2.1 u.2.2.2.2.1 u.2.2.2.2.2) := by
  refine Met.ofW (cc := cX3_forget) (maxL := 1) (ret := none) (by decide) rfl ?_
  intro p e s m args below meth c s₁ B hml hv
  obtain ⟨rfl, hP, hG, hD0⟩ := hv
  have C0 : xM p s m ([.ref w] : List Value).toArray meth c cX3_forget 1 RX3 none wsX3_forget := ⟨B.exec, B.bytes, B.returns, atoms_spec (ws := wsX3_forget) B.pre, findClass_of_methodNamed B.named, B.notSynchronized, hml⟩
  obtain ⟨hx, hb, hr, hts, hown, hlocks, hml⟩ := id C0
  have hD := xSelf hD0
  have hS : va_S (xIn (wW k w ap aq pR pP pL pN qR qP qL qN)) s.heap s.heap [] := va_S.rf
  generalize xIn (wW k w ap aq pR pP pL pN qR qP qL qN) = A at hD hS ⊢
  have hl := lv_entry ([.ref w]) (n := 1) (Nat.le_of_ble_eq_true rfl)
  rw [lg_entry_eq]
  generalize (lg_sl ([.ref w]) ++ List.replicate (1 - (lg_sl ([.ref w])).length) Slot.unset).toArray = ls at hl ⊢
  have hl : lv_has ls 1 [(0, .ref w)] := hl
  unfold p_X3_forget at hf
  refine lv_aload_n hx hb dX3_forget_0 rfl (lv_at hl 0 rfl) ?_
  refine va_get (D := D) (ci := 3) (C := RX3) (T := TX3) (N := 2) hx hb hts in_X3_forget_X3 hown hG.1 hP 0 rfl rfl 0 (by decide) (hts _ lk_X3_forget_10) (fun _ h9 => h9) rfl dX3_forget_1 ?_
  have hp : xPerm (wW k w ap aq pR pP pL pN qR qP qL qN) ((wT k ap pR pP pL pN) ++ ([((w, .inr (3, [.ref (ap 0), .ref (aq 0)])) : Nat × va_E)] ++ wT k aq qR qP qL qN)) := (xPermC fun _ x => by simp only [wW, List.count_append]; omega)
  refine xCallV (w := wT k ap pR pP pL pN) (r := [((w, .inr (3, [.ref (ap 0), .ref (aq 0)])) : Nat × va_E)] ++ wT k aq qR qP qL qN) (va_runV (As := []) (rest := []) ⟨hx, hb, hml, hown, hts⟩ (c_X2_empty ap pR pP pL pN hf) (cwV 0 hts gX3_forget_X2_empty rfl rfl rfl (by decide +kernel) ⟨Nat.le_of_ble_eq_true rfl, Nat.le_of_ble_eq_true rfl⟩) (xPreV hG hP hD hp (ci := 2) rfl (i := 0) rfl) rfl rfl hl.1 rfl (lv_room (Nat.le_of_ble_eq_true rfl)) dX3_forget_4 ⟨Nat.zero_le _, Nat.zero_le _⟩) hP hD hS hp (fun _ => wT_adr) (fun u H locs hf hP hD hS => ?_)
  obtain ⟨R_1, P_2, L_3⟩ := u
  have hP : va_P D vwCl (wW k w ap aq R_1 P_2 L_3 pN qR qP qL qN) H := xP_perm (xPermC fun _ x => by simp only [wW, List.count_append]; omega) hP
  have hD : va_D A (wW k w ap aq R_1 P_2 L_3 pN qR qP qL qN) := xD_perm (xPermC fun _ x => by simp only [wW, List.count_append]; omega) hD
  refine lv_aload_n hx hb dX3_forget_7 rfl (lv_at hl 0 rfl) ?_
  refine va_get (D := D) (ci := 3) (C := RX3) (T := TX3) (N := 2) hx hb hts in_X3_forget_X3 hown hG.1 hP 0 rfl rfl 1 (by decide) (hts _ lk_X3_forget_16) (fun _ h9 => h9) rfl dX3_forget_8 ?_
  have hp : xPerm (wW k w ap aq R_1 P_2 L_3 pN qR qP qL qN) ((wT k aq qR qP qL qN) ++ ([((w, .inr (3, [.ref (ap 0), .ref (aq 0)])) : Nat × va_E)] ++ wT k ap R_1 P_2 L_3 pN)) := (xPermC fun _ x => by simp only [wW, List.count_append]; omega)
  refine xCallV (w := wT k aq qR qP qL qN) (r := [((w, .inr (3, [.ref (ap 0), .ref (aq 0)])) : Nat × va_E)] ++ wT k ap R_1 P_2 L_3 pN) (va_runV (As := []) (rest := []) ⟨hx, hb, hml, hown, hts⟩ (c_X2_empty aq qR qP qL qN hf) (cwV 0 hts gX3_forget_X2_empty rfl rfl rfl (by decide +kernel) ⟨Nat.le_of_ble_eq_true rfl, Nat.le_of_ble_eq_true rfl⟩) (xPreV hG hP hD hp (ci := 2) rfl (i := 0) rfl) rfl rfl hl.1 rfl (lv_room (Nat.le_of_ble_eq_true rfl)) dX3_forget_11 ⟨Nat.zero_le _, Nat.zero_le _⟩) hP hD hS hp (fun _ => wT_adr) (fun u H locs hf hP hD hS => ?_)
  obtain ⟨R_4, P_5, L_6⟩ := u
  have hP : va_P D vwCl (wW k w ap aq R_1 P_2 L_3 pN R_4 P_5 L_6 qN) H := xP_perm (xPermC fun _ x => by simp only [wW, List.count_append]; omega) hP
  have hD : va_D A (wW k w ap aq R_1 P_2 L_3 pN R_4 P_5 L_6 qN) := xD_perm (xPermC fun _ x => by simp only [wW, List.count_append]; omega) hD
  exact W.vret hx hb hr (fun t ht hW => ⟨⟨(R_1, P_2, L_3, R_4, P_5, L_6), rfl, hf, xHp ht hP⟩, hS.F ht⟩) hS.2.2 dX3_forget_14 hlocks

def p_X3_takeLetter (pR : Int32) (pP : Int32) (pL : Nat → Int32) (pN : Nat → Nat → Int32) (qR : Int32) (qP : Int32) (qL : Nat → Int32) (qN : Nat → Nat → Int32) (x1 : Int32) (post : Int32 → Int32 → (Nat → Int32) → (Nat → Nat → Int32) → Int32 → Int32 → (Nat → Int32) → (Nat → Nat → Int32) → Prop) : Prop := p_X2_insert pR pP pL pN x1 (fun r_5 R_1 P_2 L_3 N_4 => p_X3_letterCount P_2 (fun r_6 => p_X2_append qR qP qL qN r_5 r_6 (fun R_7 P_8 L_9 N_10 => post R_1 P_2 L_3 N_4 R_7 P_8 L_9 N_10)))
theorem in_X3_takeLetter_X3 : ∀ w ∈ u_ws RX3 TX3 2, w ∈ wsX3_takeLetter := by decide +kernel
theorem lk_X3_takeLetter_10 : Cond.fieldLink RX3 10 "GrowingCorners$Word" "p" "LGrowingCorners$Tableau;" ∈ wsX3_takeLetter := by decide +kernel
theorem lk_X3_takeLetter_16 : Cond.fieldLink RX3 16 "GrowingCorners$Word" "q" "LGrowingCorners$Tableau;" ∈ wsX3_takeLetter := by decide +kernel
set_option maxHeartbeats 4000000 in
set_option maxRecDepth 100000 in
theorem c_X3_takeLetter {l : Launch} {D : va_G} {k : Nat → ClassId} (w : Nat) (ap : Nat → Nat) (aq : Nat → Nat) (pR : Int32) (pP : Int32) (pL : Nat → Int32) (pN : Nat → Nat → Int32) (qR : Int32) (qP : Int32) (qL : Nat → Int32) (qN : Nat → Nat → Int32) (x1 : Int32) {post : Int32 → Int32 → (Nat → Int32) → (Nat → Nat → Int32) → Int32 → Int32 → (Nat → Int32) → (Nat → Nat → Int32) → Prop} (hf : p_X3_takeLetter pR pP pL pN qR qP qL qN x1 post) : ctV l yX3_takeLetter wsX3_takeLetter ({ frames := 4, cells := 0, slots := 0, locals := 91 }) D k [.ref w, .int x1] (wW k w ap aq pR pP pL pN qR qP qL qN) (fun u : Int32 × Int32 × (Nat → Int32) × (Nat → Nat → Int32) × Int32 × Int32 × (Nat → Int32) × (Nat → Nat → Int32) => wW k w ap aq (u.1) (u.2.1) (u.2.2.1) (u.2.2.2.1) (u.2.2.2.2.1) (u.2.2.2.2.2.1) (u.2.2.2.2.2.2.1) (u.2.2.2.2.2.2.2)) (fun (u : Int32 × Int32 × (Nat → Int32) × (Nat → Nat → Int32) × Int32 × Int32 × (Nat → Int32) × (Nat → Nat → Int32)) => post u.1 u.2.1 u.2.2.1 u.2.2.2.1 u.2.2.2.2.1 u.2.2.2.2.2.1 u.2.2.2.2.2.2.1 u.2.2.2.2.2.2.2) := by
  refine Met.ofW (cc := cX3_takeLetter) (maxL := 3) (ret := none) (by decide) rfl ?_
  intro p e s m args below meth c s₁ B hml hv
  obtain ⟨rfl, hP, hG, hD0⟩ := hv
  have C0 : xM p s m ([.ref w, .int x1] : List Value).toArray meth c cX3_takeLetter 3 RX3 none wsX3_takeLetter := ⟨B.exec, B.bytes, B.returns, atoms_spec (ws := wsX3_takeLetter) B.pre, findClass_of_methodNamed B.named, B.notSynchronized, hml⟩
  obtain ⟨hx, hb, hr, hts, hown, hlocks, hml⟩ := id C0
  have hD := xSelf hD0
  have hS : va_S (xIn (wW k w ap aq pR pP pL pN qR qP qL qN)) s.heap s.heap [] := va_S.rf
  generalize xIn (wW k w ap aq pR pP pL pN qR qP qL qN) = A at hD hS ⊢
  have hl := lv_entry ([.ref w, .int x1]) (n := 3) (Nat.le_of_ble_eq_true rfl)
  rw [lg_entry_eq]
  generalize (lg_sl ([.ref w, .int x1]) ++ List.replicate (3 - (lg_sl ([.ref w, .int x1])).length) Slot.unset).toArray = ls at hl ⊢
  have hl : lv_has ls 3 [(0, .ref w), (1, .int x1)] := hl
  unfold p_X3_takeLetter at hf
  refine lv_aload_n hx hb dX3_takeLetter_0 rfl (lv_at hl 0 rfl) ?_
  refine va_get (D := D) (ci := 3) (C := RX3) (T := TX3) (N := 2) hx hb hts in_X3_takeLetter_X3 hown hG.1 hP 0 rfl rfl 0 (by decide) (hts _ lk_X3_takeLetter_10) (fun _ h9 => h9) rfl dX3_takeLetter_1 ?_
  refine lv_iload_n hx hb dX3_takeLetter_4 rfl (lv_at hl 1 rfl) ?_
  have hp : xPerm (wW k w ap aq pR pP pL pN qR qP qL qN) ((wT k ap pR pP pL pN) ++ ([((w, .inr (3, [.ref (ap 0), .ref (aq 0)])) : Nat × va_E)] ++ wT k aq qR qP qL qN)) := (xPermC fun _ x => by simp only [wW, List.count_append]; omega)
  refine xCallI (w := wT k ap pR pP pL pN) (r := [((w, .inr (3, [.ref (ap 0), .ref (aq 0)])) : Nat × va_E)] ++ wT k aq qR qP qL qN) (va_runV (As := [.int x1]) (rest := []) ⟨hx, hb, hml, hown, hts⟩ (c_X2_insert ap pR pP pL pN x1 hf) (cwV 1 hts gX3_takeLetter_X2_insert rfl rfl rfl (by decide +kernel) ⟨Nat.le_of_ble_eq_true rfl, Nat.le_of_ble_eq_true rfl⟩) (xPreV hG hP hD hp (ci := 2) rfl (i := 0) rfl) rfl rfl hl.1 rfl (lv_room (Nat.le_of_ble_eq_true rfl)) dX3_takeLetter_5 ⟨Nat.zero_le _, Nat.zero_le _⟩) hP hD hS hp (fun _ => wT_adr) (fun r_5 u H locs hf hP hD hS => ?_)
  obtain ⟨R_1, P_2, L_3, N_4⟩ := u
  have hP : va_P D vwCl (wW k w ap aq R_1 P_2 L_3 N_4 qR qP qL qN) H := xP_perm (xPermC fun _ x => by simp only [wW, List.count_append]; omega) hP
  have hD : va_D A (wW k w ap aq R_1 P_2 L_3 N_4 qR qP qL qN) := xD_perm (xPermC fun _ x => by simp only [wW, List.count_append]; omega) hD
  refine lv_istore_n (lv' := [(2, .int r_5), (0, .ref w), (1, .int x1)]) hx hb dX3_takeLetter_8 rfl hl (by decide) rfl (fun ls hl => ?_)
  refine lv_aload_n hx hb dX3_takeLetter_9 rfl (lv_at hl 1 rfl) ?_
  refine va_get (D := D) (ci := 3) (C := RX3) (T := TX3) (N := 2) hx hb hts in_X3_takeLetter_X3 hown hG.1 hP 0 rfl rfl 1 (by decide) (hts _ lk_X3_takeLetter_16) (fun _ h9 => h9) rfl dX3_takeLetter_10 ?_
  refine lv_iload_n hx hb dX3_takeLetter_13 rfl (lv_at hl 0 rfl) ?_
  refine lv_aload_n hx hb dX3_takeLetter_14 rfl (lv_at hl 1 rfl) ?_
  have hp : xPerm (wW k w ap aq R_1 P_2 L_3 N_4 qR qP qL qN) ((wW k w ap aq R_1 P_2 L_3 N_4 qR qP qL qN) ++ ([])) := xPermNil
  refine xCallI (w := wW k w ap aq R_1 P_2 L_3 N_4 qR qP qL qN) (r := []) (va_runV (As := []) (rest := [.int r_5, .ref (aq 0)]) ⟨hx, hb, hml, hown, hts⟩ (c_X3_letterCount w ap aq R_1 P_2 L_3 N_4 qR qP qL qN hf) (cwV 0 hts gX3_takeLetter_X3_letterCount rfl rfl rfl (by decide +kernel) ⟨Nat.le_of_ble_eq_true rfl, Nat.le_of_ble_eq_true rfl⟩) (xPreV hG hP hD hp (ci := 3) rfl (i := 0) rfl) rfl rfl hl.1 rfl (lv_room (Nat.le_of_ble_eq_true rfl)) dX3_takeLetter_15 ⟨Nat.zero_le _, Nat.zero_le _⟩) hP hD hS hp (fun _ => wW_adr) (fun r_6 _ H locs hf hP hD hS => ?_)
  have hP : va_P D vwCl (wW k w ap aq R_1 P_2 L_3 N_4 qR qP qL qN) H := xNilP hP
  have hD : va_D A (wW k w ap aq R_1 P_2 L_3 N_4 qR qP qL qN) := xNilD hD
  have hp : xPerm (wW k w ap aq R_1 P_2 L_3 N_4 qR qP qL qN) ((wT k aq qR qP qL qN) ++ ([((w, .inr (3, [.ref (ap 0), .ref (aq 0)])) : Nat × va_E)] ++ wT k ap R_1 P_2 L_3 N_4)) := (xPermC fun _ x => by simp only [wW, List.count_append]; omega)
  refine xCallV (w := wT k aq qR qP qL qN) (r := [((w, .inr (3, [.ref (ap 0), .ref (aq 0)])) : Nat × va_E)] ++ wT k ap R_1 P_2 L_3 N_4) (va_runV (As := [.int r_5, .int r_6]) (rest := []) ⟨hx, hb, hml, hown, hts⟩ (c_X2_append aq qR qP qL qN r_5 r_6 hf) (cwV 2 hts gX3_takeLetter_X2_append rfl rfl rfl (by decide +kernel) ⟨Nat.le_of_ble_eq_true rfl, Nat.le_of_ble_eq_true rfl⟩) (xPreV hG hP hD hp (ci := 2) rfl (i := 0) rfl) rfl rfl hl.1 rfl (lv_room (Nat.le_of_ble_eq_true rfl)) dX3_takeLetter_18 ⟨Nat.zero_le _, Nat.zero_le _⟩) hP hD hS hp (fun _ => wT_adr) (fun u H locs hf hP hD hS => ?_)
  obtain ⟨R_7, P_8, L_9, N_10⟩ := u
  have hP : va_P D vwCl (wW k w ap aq R_1 P_2 L_3 N_4 R_7 P_8 L_9 N_10) H := xP_perm (xPermC fun _ x => by simp only [wW, List.count_append]; omega) hP
  have hD : va_D A (wW k w ap aq R_1 P_2 L_3 N_4 R_7 P_8 L_9 N_10) := xD_perm (xPermC fun _ x => by simp only [wW, List.count_append]; omega) hD
  exact W.vret hx hb hr (fun t ht hW => ⟨⟨(R_1, P_2, L_3, N_4, R_7, P_8, L_9, N_10), rfl, hf, xHp ht hP⟩, hS.F ht⟩) hS.2.2 dX3_takeLetter_21 hlocks

def p_X3_become_6 (f : Nat → Int32) (x2 : Int32) (post : Int32 → Int32 → (Nat → Int32) → (Nat → Nat → Int32) → Int32 → Int32 → (Nat → Int32) → (Nat → Nat → Int32) → Prop) : Nat → Int32 → Int32 → (Nat → Int32) → (Nat → Nat → Int32) → Int32 → Int32 → (Nat → Int32) → (Nat → Nat → Int32) → Int32 → Prop
  | 0, _, _, _, _, _, _, _, _, _ => False
  | n + 1, pR, pP, pL, pN, qR, qP, qL, qN, x3 => ((x2 ≤ x3 → post pR pP pL pN qR qP qL qN) ∧ (¬ x2 ≤ x3 → (vp_in x3 40 ∧ p_X3_takeLetter pR pP pL pN qR qP qL qN (f x3.toNatClampNeg) (fun pR_9 pP_10 pL_11 pN_12 qR_13 qP_14 qL_15 qN_16 => p_X3_become_6 f x2 post n pR_9 pP_10 pL_11 pN_12 qR_13 qP_14 qL_15 qN_16 (x3 + 1)))))
def p_X3_become (f : Nat → Int32) (pR : Int32) (pP : Int32) (pL : Nat → Int32) (pN : Nat → Nat → Int32) (qR : Int32) (qP : Int32) (qL : Nat → Int32) (qN : Nat → Nat → Int32) (x2 : Int32) (post : Int32 → Int32 → (Nat → Int32) → (Nat → Nat → Int32) → Int32 → Int32 → (Nat → Int32) → (Nat → Nat → Int32) → Prop) : Prop := p_X3_forget pR pP pL qR qP qL (fun pR_1 pP_2 pL_3 qR_4 qP_5 qL_6 => (∃ n_17, p_X3_become_6 f x2 post n_17 pR_1 pP_2 pL_3 pN qR_4 qP_5 qL_6 qN 0))
set_option maxHeartbeats 4000000 in
set_option maxRecDepth 100000 in
theorem k_X3_become_6 {p : Program} {l : Launch} {e : Env} {s : State} {m : MethodId} {args : Array Value} {below : List Frame} {meth : Method} {c : Code} {A : Nat → Prop} {D : va_G} {k : Nat → ClassId} {d : Nat} {w : Nat} {ap : Nat → Nat} {aq : Nat → Nat} {f : Nat → Int32} {x2 : Int32} (C0 : xM p s m args meth c cX3_become 4 RX3 none wsX3_become) (hG : xG D k s) {post : Int32 → Int32 → (Nat → Int32) → (Nat → Nat → Int32) → Int32 → Int32 → (Nat → Int32) → (Nat → Nat → Int32) → Prop} : ∀ (n : Nat) (pR : Int32) (pP : Int32) (pL : Nat → Int32) (pN : Nat → Nat → Int32) (qR : Int32) (qP : Int32) (qL : Nat → Int32) (qN : Nat → Nat → Int32) (x3 : Int32) (H : Heap) (locs : List Loc) (ls : Array Slot), p_X3_become_6 f x2 post n pR pP pL pN qR qP qL qN x3 → va_P D vwCl ([((d, .inl (k 0, 40, .inl f)) : Nat × va_E)] ++ wW k w ap aq pR pP pL pN qR qP qL qN) H → va_D A ([((d, .inl (k 0, 40, .inl f)) : Nat × va_E)] ++ wW k w ap aq pR pP pL pN qR qP qL qN) → va_S A s.heap H locs → lv_has ls 4 [(0, .ref w), (1, .ref d), (2, .int x2), (3, .int x3)] → W p l e ({ frames := 5, cells := 0, slots := 0, locals := 113 }) s m args below meth c H locs 0 0 (MQ below (va_Qv (fun (u : Int32 × Int32 × (Nat → Int32) × (Nat → Nat → Int32) × Int32 × Int32 × (Nat → Int32) × (Nat → Nat → Int32)) => post u.1 u.2.1 u.2.2.1 u.2.2.2.1 u.2.2.2.2.1 u.2.2.2.2.2.1 u.2.2.2.2.2.2.1 u.2.2.2.2.2.2.2) (fun u t => va_P D vwCl ([((d, .inl (k 0, 40, .inl f)) : Nat × va_E)] ++ wW k w ap aq (u.1) (u.2.1) (u.2.2.1) (u.2.2.2.1) (u.2.2.2.2.1) (u.2.2.2.2.2.1) (u.2.2.2.2.2.2.1) (u.2.2.2.2.2.2.2)) t.heap) A) args s 0 0 A) (F0 m 6 ls []) := by
  obtain ⟨hx, hb, hr, hts, hown, hlocks, hml⟩ := id C0
  intro n
  induction n with
  | zero =>
    intro pR pP pL pN qR qP qL qN x3 H locs ls hf
    exact False.elim hf
  | succ n ih =>
    intro pR pP pL pN qR qP qL qN x3 H locs ls hf hP hD hS hl
    unfold p_X3_become_6 at hf
    refine lv_iload_n hx hb dX3_become_6 rfl (lv_at hl 3 rfl) ?_
    refine lv_iload_n hx hb dX3_become_7 rfl (lv_at hl 2 rfl) ?_
    refine lv_icmp_ge (tgt := 24) hx hb dX3_become_8 (by decide) (fun c_7 => ?_) (fun c_7 => ?_)
    · have hf := hf.1 c_7
      exact W.vret hx hb hr (fun t ht hW => ⟨⟨(pR, pP, pL, pN, qR, qP, qL, qN), rfl, hf, xHp ht hP⟩, hS.F ht⟩) hS.2.2 dX3_become_24 hlocks
    · have hf := hf.2 c_7
      refine lv_aload_n hx hb dX3_become_11 rfl (lv_at hl 0 rfl) ?_
      refine lv_aload_n hx hb dX3_become_12 rfl (lv_at hl 1 rfl) ?_
      refine lv_iload_n hx hb dX3_become_13 rfl (lv_at hl 3 rfl) ?_
      obtain ⟨h_8, hf⟩ := hf
      refine va_iald hx hb hG.1 hP 0 0 rfl rfl h_8 dX3_become_14 ?_
      have hp : xPerm ([((d, .inl (k 0, 40, .inl f)) : Nat × va_E)] ++ wW k w ap aq pR pP pL pN qR qP qL qN) ((wW k w ap aq pR pP pL pN qR qP qL qN) ++ ([((d, .inl (k 0, 40, .inl f)) : Nat × va_E)])) := List.perm_append_comm
      refine xCallV (w := wW k w ap aq pR pP pL pN qR qP qL qN) (r := [((d, .inl (k 0, 40, .inl f)) : Nat × va_E)]) (va_runV (As := [.int (f x3.toNatClampNeg)]) (rest := []) ⟨hx, hb, hml, hown, hts⟩ (c_X3_takeLetter w ap aq pR pP pL pN qR qP qL qN (f x3.toNatClampNeg) hf) (cwV 1 hts gX3_become_X3_takeLetter rfl rfl rfl (by decide +kernel) ⟨Nat.le_of_ble_eq_true rfl, Nat.le_of_ble_eq_true rfl⟩) (xPreV hG hP hD hp (ci := 3) rfl (i := 0) rfl) rfl rfl hl.1 rfl (lv_room (Nat.le_of_ble_eq_true rfl)) dX3_become_15 ⟨Nat.zero_le _, Nat.zero_le _⟩) hP hD hS hp (fun _ => wW_adr) (fun u H locs hf hP hD hS => ?_)
      obtain ⟨pR_9, pP_10, pL_11, pN_12, qR_13, qP_14, qL_15, qN_16⟩ := u
      have hP : va_P D vwCl ([((d, .inl (k 0, 40, .inl f)) : Nat × va_E)] ++ wW k w ap aq pR_9 pP_10 pL_11 pN_12 qR_13 qP_14 qL_15 qN_16) H := xP_perm List.perm_append_comm hP
      have hD : va_D A ([((d, .inl (k 0, 40, .inl f)) : Nat × va_E)] ++ wW k w ap aq pR_9 pP_10 pL_11 pN_12 qR_13 qP_14 qL_15 qN_16) := xD_perm List.perm_append_comm hD
      refine lv_iinc (v := x3 + 1) (lv' := [(3, .int (x3 + 1)), (0, .ref w), (1, .ref d), (2, .int x2)]) hx hb dX3_become_18 hl (k := 3) rfl rfl (by decide) rfl (fun ls hl => ?_)
      refine lv_goto (tgt := 6) hx hb dX3_become_21 (by decide) ?_
      exact ih pR_9 pP_10 pL_11 pN_12 qR_13 qP_14 qL_15 qN_16 (x3 + 1) _ _ _ hf hP hD hS (lv_sub hl [1, 2, 3, 0] rfl)
set_option maxHeartbeats 4000000 in
set_option maxRecDepth 100000 in
theorem c_X3_become {l : Launch} {D : va_G} {k : Nat → ClassId} (d : Nat) (w : Nat) (ap : Nat → Nat) (aq : Nat → Nat) (f : Nat → Int32) (pR : Int32) (pP : Int32) (pL : Nat → Int32) (pN : Nat → Nat → Int32) (qR : Int32) (qP : Int32) (qL : Nat → Int32) (qN : Nat → Nat → Int32) (x2 : Int32) {post : Int32 → Int32 → (Nat → Int32) → (Nat → Nat → Int32) → Int32 → Int32 → (Nat → Int32) → (Nat → Nat → Int32) → Prop} (hf : p_X3_become f pR pP pL pN qR qP qL qN x2 post) : ctV l yX3_become wsX3_become ({ frames := 5, cells := 0, slots := 0, locals := 113 }) D k [.ref w, .ref d, .int x2] ([((d, .inl (k 0, 40, .inl f)) : Nat × va_E)] ++ wW k w ap aq pR pP pL pN qR qP qL qN) (fun u : Int32 × Int32 × (Nat → Int32) × (Nat → Nat → Int32) × Int32 × Int32 × (Nat → Int32) × (Nat → Nat → Int32) => [((d, .inl (k 0, 40, .inl f)) : Nat × va_E)] ++ wW k w ap aq (u.1) (u.2.1) (u.2.2.1) (u.2.2.2.1) (u.2.2.2.2.1) (u.2.2.2.2.2.1) (u.2.2.2.2.2.2.1) (u.2.2.2.2.2.2.2)) (fun (u : Int32 × Int32 × (Nat → Int32) × (Nat → Nat → Int32) × Int32 × Int32 × (Nat → Int32) × (Nat → Nat → Int32)) => post u.1 u.2.1 u.2.2.1 u.2.2.2.1 u.2.2.2.2.1 u.2.2.2.2.2.1 u.2.2.2.2.2.2.1 u.2.2.2.2.2.2.2) := by
  refine Met.ofW (cc := cX3_become) (maxL := 4) (ret := none) (by decide) rfl ?_
  intro p e s m args below meth c s₁ B hml hv
  obtain ⟨rfl, hP, hG, hD0⟩ := hv
  have C0 : xM p s m ([.ref w, .ref d, .int x2] : List Value).toArray meth c cX3_become 4 RX3 none wsX3_become := ⟨B.exec, B.bytes, B.returns, atoms_spec (ws := wsX3_become) B.pre, findClass_of_methodNamed B.named, B.notSynchronized, hml⟩
  obtain ⟨hx, hb, hr, hts, hown, hlocks, hml⟩ := id C0
  have hD := xSelf hD0
  have hS : va_S (xIn ([((d, .inl (k 0, 40, .inl f)) : Nat × va_E)] ++ wW k w ap aq pR pP pL pN qR qP qL qN)) s.heap s.heap [] := va_S.rf
  generalize xIn ([((d, .inl (k 0, 40, .inl f)) : Nat × va_E)] ++ wW k w ap aq pR pP pL pN qR qP qL qN) = A at hD hS ⊢
  have hl := lv_entry ([.ref w, .ref d, .int x2]) (n := 4) (Nat.le_of_ble_eq_true rfl)
  rw [lg_entry_eq]
  generalize (lg_sl ([.ref w, .ref d, .int x2]) ++ List.replicate (4 - (lg_sl ([.ref w, .ref d, .int x2])).length) Slot.unset).toArray = ls at hl ⊢
  have hl : lv_has ls 4 [(0, .ref w), (1, .ref d), (2, .int x2)] := hl
  unfold p_X3_become at hf
  refine lv_aload_n hx hb dX3_become_0 rfl (lv_at hl 0 rfl) ?_
  have hp : xPerm ([((d, .inl (k 0, 40, .inl f)) : Nat × va_E)] ++ wW k w ap aq pR pP pL pN qR qP qL qN) ((wW k w ap aq pR pP pL pN qR qP qL qN) ++ ([((d, .inl (k 0, 40, .inl f)) : Nat × va_E)])) := List.perm_append_comm
  refine xCallV (w := wW k w ap aq pR pP pL pN qR qP qL qN) (r := [((d, .inl (k 0, 40, .inl f)) : Nat × va_E)]) (va_runV (As := []) (rest := []) ⟨hx, hb, hml, hown, hts⟩ (c_X3_forget w ap aq pR pP pL pN qR qP qL qN hf) (cwV 0 hts gX3_become_X3_forget rfl rfl rfl (by decide +kernel) ⟨Nat.le_of_ble_eq_true rfl, Nat.le_of_ble_eq_true rfl⟩) (xPreV hG hP hD hp (ci := 3) rfl (i := 0) rfl) rfl rfl hl.1 rfl (lv_room (Nat.le_of_ble_eq_true rfl)) dX3_become_1 ⟨Nat.zero_le _, Nat.zero_le _⟩) hP hD hS hp (fun _ => wW_adr) (fun u H locs hf hP hD hS => ?_)
  obtain ⟨pR_1, pP_2, pL_3, qR_4, qP_5, qL_6⟩ := u
  have hP : va_P D vwCl ([((d, .inl (k 0, 40, .inl f)) : Nat × va_E)] ++ wW k w ap aq pR_1 pP_2 pL_3 pN qR_4 qP_5 qL_6 qN) H := xP_perm List.perm_append_comm hP
  have hD : va_D A ([((d, .inl (k 0, 40, .inl f)) : Nat × va_E)] ++ wW k w ap aq pR_1 pP_2 pL_3 pN qR_4 qP_5 qL_6 qN) := xD_perm List.perm_append_comm hD
  refine lv_iconst (v := 0) hx hb dX3_become_4 (by decide) ?_
  refine lv_istore_n (lv' := [(3, .int 0), (0, .ref w), (1, .ref d), (2, .int x2)]) hx hb dX3_become_5 rfl hl (by decide) rfl (fun ls hl => ?_)
  obtain ⟨n_17, hf⟩ := hf
  exact k_X3_become_6 C0 hG n_17 pR_1 pP_2 pL_3 pN qR_4 qP_5 qL_6 qN 0 _ _ _ hf hP hD hS (lv_sub hl [1, 2, 3, 0] rfl)
