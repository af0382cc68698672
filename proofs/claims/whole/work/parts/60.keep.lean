/-! what every call keeps -/
def KK (M : Int32) (N : Int32) (C : (Nat → Nat → Int32)) (Gr : (Nat → Nat → Int32)) (Pr : (Nat → Nat → Int64)) (Pa : (Nat → Nat → Int32)) (I : (Nat → Nat → Int64)) (Ln : (Nat → Int32)) (Sz : (Nat → Int32)) (dr : (Nat → Int32)) (pR : Int32) (pP : Int32) (pL : (Nat → Int32)) (pN : (Nat → Nat → Int32)) (qR : Int32) (qP : Int32) (qL : (Nat → Int32)) (qN : (Nat → Nat → Int32)) (aR : Int32) (aP : Int32) (aL : (Nat → Int32)) (aN : (Nat → Nat → Int32)) (bR : Int32) (bP : Int32) (bL : (Nat → Int32)) (bN : (Nat → Nat → Int32)) (mm : Int32) (nn : Int32) (we : (Nat → Int32)) (la : (Nat → Int32)) (si : (Nat → Int32)) (it : (Nat → Int32)) (be : (Nat → Int32)) (pa : (Nat → Int32)) (su : (Nat → Int64)) (wo : (Nat → Int32)) (le : Int32) (pp : (Nat → Int32)) (qq : (Nat → Int32)) (ro : (Nat → Int32)) (lo : (Nat → Int32)) (lp : (Nat → Int32)) (lq : (Nat → Int32)) (rp : (Nat → Int32)) (rq : (Nat → Int32)) (se : (Nat → Int32)) (no : (Nat → Int64)) (ne : (Nat → Int64)) : Prop :=
  IG M N C Pa mm nn we ∧ IS I Ln Sz la si it ∧ IW pR pP pL pN qR qP qL qN wo le ∧ IL aR aP aL aN bR bP bL bN lp lq rp rq
theorem keep0 : xStep0 KK := by
  intro M N C Gr Pr Pa I Ln Sz dr pR pP pL pN qR qP qL qN aR aP aL aN bR bP bL bN mm nn we la si it be pa su wo le pp qq ro lo lp lq rp rq se no ne y1 y2 h
  obtain ⟨hG, hS, hW, hL⟩ := h
  exact st_box hG y1 y2 (fun _ _ _ _ _ _ hG' => ⟨hG', hS, hW, hL⟩)
theorem keep1 : xStep1 KK := by
  intro M N C Gr Pr Pa I Ln Sz dr pR pP pL pN qR qP qL qN aR aP aL aN bR bP bL bN mm nn we la si it be pa su wo le pp qq ro lo lp lq rp rq se no ne y1 y2 y3 h
  obtain ⟨hG, hS, hW, hL⟩ := h
  exact st_weight hG y1 y2 y3 (fun _ _ hG' => ⟨hG', hS, hW, hL⟩)
theorem keep2 : xStep2 KK := by
  intro M N C Gr Pr Pa I Ln Sz dr pR pP pL pN qR qP qL qN aR aP aL aN bR bP bL bN mm nn we la si it be pa su wo le pp qq ro lo lp lq rp rq se no ne y1 y2 y3 h
  obtain ⟨hG, hS, hW, hL⟩ := h
  exact st_sheet hS y1 y2 y3 (fun _ _ _ _ _ _ hS' => ⟨hG, hS', hW, hL⟩)
theorem keep3 : xStep3 KK := by
  intro M N C Gr Pr Pa I Ln Sz dr pR pP pL pN qR qP qL qN aR aP aL aN bR bP bL bN mm nn we la si it be pa su wo le pp qq ro lo lp lq rp rq se no ne y1 h
  obtain ⟨hG, hS, hW, hL⟩ := h
  exact st_drop hS y1 (fun _ _ _ hS' => ⟨hG, hS', hW, hL⟩)
theorem keep4 : xStep4 KK := by
  intro M N C Gr Pr Pa I Ln Sz dr pR pP pL pN qR qP qL qN aR aP aL aN bR bP bL bN mm nn we la si it be pa su wo le pp qq ro lo lp lq rp rq se no ne y1 y2 y3 y4 h
  obtain ⟨hG, hS, hW, hL⟩ := h
  exact st_item hS y1 y2 y3 y4 (fun _ _ hS' => ⟨hG, hS', hW, hL⟩)
theorem keep5 : xStep5 KK := by
  intro M N C Gr Pr Pa I Ln Sz dr pR pP pL pN qR qP qL qN aR aP aL aN bR bP bL bN mm nn we la si it be pa su wo le pp qq ro lo lp lq rp rq se no ne y1 y2 y3 h
  obtain ⟨hG, hS, hW, hL⟩ := h
  exact st_weights hG hS y1 y2 y3 (fun _ _ hG' => ⟨hG', hS, hW, hL⟩)
theorem keep6 : xStep6 KK := by
  intro M N C Gr Pr Pa I Ln Sz dr pR pP pL pN qR qP qL qN aR aP aL aN bR bP bL bN mm nn we la si it be pa su wo le pp qq ro lo lp lq rp rq se no ne h
  obtain ⟨hG, hS, hW, hL⟩ := h
  exact st_turn hG (fun _ _ _ _ _ _ hG' => ⟨hG', hS, hW, hL⟩)
theorem keep7 : xStep7 KK := by
  intro M N C Gr Pr Pa I Ln Sz dr pR pP pL pN qR qP qL qN aR aP aL aN bR bP bL bN mm nn we la si it be pa su wo le pp qq ro lo lp lq rp rq se no ne y1 y2 h
  obtain ⟨hG, hS, hW, hL⟩ := h
  exact st_best hG Gr be y1 y2 (fun _ _ => ⟨hG, hS, hW, hL⟩)
theorem keep8 : xStep8 KK := by
  intro M N C Gr Pr Pa I Ln Sz dr pR pP pL pN qR qP qL qN aR aP aL aN bR bP bL bN mm nn we la si it be pa su wo le pp qq ro lo lp lq rp rq se no ne y1 y2 y3 y4 h
  obtain ⟨hG, hS, hW, hL⟩ := h
  exact st_between hG Gr be y1 y2 y3 y4 (fun _ _ => ⟨hG, hS, hW, hL⟩)
theorem keep9 : xStep9 KK := by
  intro M N C Gr Pr Pa I Ln Sz dr pR pP pL pN qR qP qL qN aR aP aL aN bR bP bL bN mm nn we la si it be pa su wo le pp qq ro lo lp lq rp rq se no ne y1 y2 y3 h
  obtain ⟨hG, hS, hW, hL⟩ := h
  exact st_shape hG pa y1 y2 y3 (fun _ _ hG' => ⟨hG', hS, hW, hL⟩)
theorem keep10 : xStep10 KK := by
  intro M N C Gr Pr Pa I Ln Sz dr pR pP pL pN qR qP qL qN aR aP aL aN bR bP bL bN mm nn we la si it be pa su wo le pp qq ro lo lp lq rp rq se no ne y1 h
  obtain ⟨hG, hS, hW, hL⟩ := h
  exact st_ways hG pa y1 (fun _ _ hG' => ⟨hG', hS, hW, hL⟩)
theorem keep11 : xStep11 KK := by
  intro M N C Gr Pr Pa I Ln Sz dr pR pP pL pN qR qP qL qN aR aP aL aN bR bP bL bN mm nn we la si it be pa su wo le pp qq ro lo lp lq rp rq se no ne y1 y2 h
  obtain ⟨hG, hS, hW, hL⟩ := h
  exact st_sums hG Pr su y1 y2 (fun _ _ => ⟨hG, hS, hW, hL⟩)
theorem keep12 : xStep12 KK := by
  intro M N C Gr Pr Pa I Ln Sz dr pR pP pL pN qR qP qL qN aR aP aL aN bR bP bL bN mm nn we la si it be pa su wo le pp qq ro lo lp lq rp rq se no ne y1 y2 h
  obtain ⟨hG, hS, hW, hL⟩ := h
  exact st_served hG Gr be y1 y2 (fun _ _ => ⟨hG, hS, hW, hL⟩)
theorem keep13 : xStep13 KK := by
  intro M N C Gr Pr Pa I Ln Sz dr pR pP pL pN qR qP qL qN aR aP aL aN bR bP bL bN mm nn we la si it be pa su wo le pp qq ro lo lp lq rp rq se no ne y1 h
  obtain ⟨hG, hS, hW, hL⟩ := h
  exact st_line hG Gr be y1 (fun _ _ => ⟨hG, hS, hW, hL⟩)
theorem keep14 : xStep14 KK := by
  intro M N C Gr Pr Pa I Ln Sz dr pR pP pL pN qR qP qL qN aR aP aL aN bR bP bL bN mm nn we la si it be pa su wo le pp qq ro lo lp lq rp rq se no ne y1 h
  obtain ⟨hG, hS, hW, hL⟩ := h
  exact st_letter hW y1 (fun _ _ _ _ _ _ _ _ _ _ hW' => ⟨hG, hS, hW', hL⟩)
theorem keep15 : xStep15 KK := by
  intro M N C Gr Pr Pa I Ln Sz dr pR pP pL pN qR qP qL qN aR aP aL aN bR bP bL bN mm nn we la si it be pa su wo le pp qq ro lo lp lq rp rq se no ne h
  obtain ⟨hG, hS, hW, hL⟩ := h
  exact st_clear hW (fun _ _ _ _ _ _ _ hW' => ⟨hG, hS, hW', hL⟩)
theorem keep16 : xStep16 KK := by
  intro M N C Gr Pr Pa I Ln Sz dr pR pP pL pN qR qP qL qN aR aP aL aN bR bP bL bN mm nn we la si it be pa su wo le pp qq ro lo lp lq rp rq se no ne y1 h
  obtain ⟨hG, hS, hW, hL⟩ := h
  exact st_row hW pp qq ro y1 (fun _ _ _ => ⟨hG, hS, hW, hL⟩)
theorem keep17 : xStep17 KK := by
  intro M N C Gr Pr Pa I Ln Sz dr pR pP pL pN qR qP qL qN aR aP aL aN bR bP bL bN mm nn we la si it be pa su wo le pp qq ro lo lp lq rp rq se no ne y1 y2 y3 h
  obtain ⟨hG, hS, hW, hL⟩ := h
  exact st_place hW pp qq ro y1 y2 y3 (fun _ _ _ => ⟨hG, hS, hW, hL⟩)
theorem keep18 : xStep18 KK := by
  intro M N C Gr Pr Pa I Ln Sz dr pR pP pL pN qR qP qL qN aR aP aL aN bR bP bL bN mm nn we la si it be pa su wo le pp qq ro lo lp lq rp rq se no ne y1 h
  obtain ⟨hG, hS, hW, hL⟩ := h
  exact st_longest hW lo y1 (fun _ => ⟨hG, hS, hW, hL⟩)
theorem keep19 : xStep19 KK := by
  intro M N C Gr Pr Pa I Ln Sz dr pR pP pL pN qR qP qL qN aR aP aL aN bR bP bL bN mm nn we la si it be pa su wo le pp qq ro lo lp lq rp rq se no ne y1 y2 y3 h
  obtain ⟨hG, hS, hW, hL⟩ := h
  exact st_lay hL y1 y2 y3 (fun _ _ _ _ _ _ _ _ _ _ _ _ hL' => ⟨hG, hS, hW, hL'⟩)
theorem keep20 : xStep20 KK := by
  intro M N C Gr Pr Pa I Ln Sz dr pR pP pL pN qR qP qL qN aR aP aL aN bR bP bL bN mm nn we la si it be pa su wo le pp qq ro lo lp lq rp rq se no ne h
  obtain ⟨hG, hS, hW, hL⟩ := h
  exact st_unlay hL (fun _ _ _ _ _ _ _ _ hL' => ⟨hG, hS, hW, hL'⟩)
theorem keep21 : xStep21 KK := by
  intro M N C Gr Pr Pa I Ln Sz dr pR pP pL pN qR qP qL qN aR aP aL aN bR bP bL bN mm nn we la si it be pa su wo le pp qq ro lo lp lq rp rq se no ne h
  obtain ⟨hG, hS, hW, hL⟩ := h
  exact st_back hW hL dr se (fun _ _ _ _ _ _ _ _ _ _ _ _ _ _ _ _ _ _ _ _ _ _ hW' hL' => ⟨hG, hS, hW', hL'⟩)
theorem keep22 : xStep22 KK := by
  intro M N C Gr Pr Pa I Ln Sz dr pR pP pL pN qR qP qL qN aR aP aL aN bR bP bL bN mm nn we la si it be pa su wo le pp qq ro lo lp lq rp rq se no ne h
  obtain ⟨hG, hS, hW, hL⟩ := h
  exact st_wordOf hG hW dr (fun _ _ _ _ _ _ _ _ _ _ _ hW' => ⟨hG, hS, hW', hL⟩)
theorem keep23 : xStep23 KK := by
  intro M N C Gr Pr Pa I Ln Sz dr pR pP pL pN qR qP qL qN aR aP aL aN bR bP bL bN mm nn we la si it be pa su wo le pp qq ro lo lp lq rp rq se no ne y1 y2 y3 h
  obtain ⟨hG, hS, hW, hL⟩ := h
  exact st_chance no ne y1 y2 y3 (fun _ _ => ⟨hG, hS, hW, hL⟩)
theorem kSteps : xSteps KK := ⟨keep0, keep1, keep2, keep3, keep4, keep5, keep6, keep7, keep8, keep9, keep10, keep11, keep12, keep13, keep14, keep15, keep16, keep17, keep18, keep19, keep20, keep21, keep22, keep23⟩
theorem kInit : xInit KK := by
  refine ⟨⟨3, 3, by omega, by omega, rfl, rfl, rfl, rfl, fun i j _ _ => rfl, fun i j _ _ => ⟨0, by omega, rfl⟩, fun r k _ _ _ => rfl⟩, fun s hs => ⟨?_, Or.inl rfl, fun j _ => rfl⟩, ⟨fun _ => 0, 0, isW_0, by omega, rfl, fun t ht => absurd ht (Nat.not_lt_zero t), ?_, ?_⟩, ?_, ?_⟩
  · rcases (by omega : s = 0 ∨ s = 1 ∨ s = 2 ∨ s = 3) with rfl | rfl | rfl | rfl <;> rfl
  · exact (W_0 (L' := fun _ => 0) (N' := fun _ _ => 0) _ (fun r _ => rfl) (fun r _ => rfl)).1
  · exact (W_0 (L := fun _ => 0) (N := fun _ _ => 0) _ (fun r _ => rfl) (fun r _ => rfl)).2
  · exact IT_0 (fun r _ => rfl) (fun r _ => rfl)
  · exact IT_0 (fun r _ => rfl) (fun r _ => rfl)
theorem whole_start {p : Program} {e : Env} {s : State} {m : MethodId} {below : List Frame} {meth : Method} {c : Code} (l : Launch) {b0 L : Nat} {xs : Nat → Int32} (hL : L ≤ 2560) (C0 : lw_At p s m meth c b0 L xs) : W p l e room_1 s m #[Value.ref b0] below meth c s.heap [] 0 0 (lw_Z below #[Value.ref b0] s) (entryFrame m ([Value.ref b0] : List Value).toArray 4) := whole_open l kInit kSteps hL C0
