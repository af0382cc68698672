/-! the reference reads -/
theorem m_read {l : Nat → Nat} {e Q : Nat → Nat → Nat} {T : Nat} {ρ : Nat → Nat} (hT : TB l e) (hQ : RQ l l Q T) (hs : sm l = T) (h40 : T ≤ 40) (hρ : ∀ v, 1 ≤ v → v ≤ T → ρ v < 9 ∧ ∃ c, c < l (ρ v) ∧ Q (ρ v) c = v) {wo lp lq rp rq se : Nat → Int32} {le : Int32} (hA : ML l e lp rp) (hB : ML l Q lq rq) {post : Int32 → (Nat → Int32) → Int32 → (Nat → Int32) → (Nat → Int32) → (Nat → Int32) → (Nat → Int32) → Prop} (h : ∀ wo' lp' rp' rq', (∀ t, t < T → wo' t = nI ((rdS ρ T l e T).2.2 t)) → (∀ r, r < 9 → rp' r = 0 ∧ rq' r = 0) → post le wo' le lp' rp' rq' se) : ∃ n, p_X5_back_26 lq post n wo le lp rp rq se (nI T) := by
  refine pk_loop (fun u d (s : (Nat → Int32) × (Nat → Int32) × (Nat → Int32) × (Nat → Int32)) => p_X5_back_26 lq post u s.1 le s.2.1 s.2.2.1 s.2.2.2 se (nI (T - d))) (fun d s => ML (rdS ρ T l e d).1 (rdS ρ T l e d).2.1 s.2.1 s.2.2.1 ∧ (∀ r, r < 9 → s.2.2.2 r = nI ((rdS ρ T l e d).1 r)) ∧ ∀ t, T - d ≤ t → t < T → s.1 t = nI ((rdS ρ T l e d).2.2 t)) T 0 (wo, lp, rp, rq) (by omega) ⟨hA, fun r hr => (hB r hr).1, fun t h1 h2 => by omega⟩ (fun u s hs' => ?_) (fun u d s hd hs' ih => ?_)
  · show p_X5_back_26 _ _ _ _ _ _ _ _ _ _
    unfold p_X5_back_26
    obtain ⟨r1, r2, r3, r4⟩ := RD_all hT hQ hs hρ T (Nat.le_refl T)
    refine pk_lt (T - T) 1 (fun _ => h _ _ _ _ (fun t ht => hs'.2.2 t (by omega) ht) (fun r hr => ?_)) (fun q => by omega)
    have := sm_le (l := (rdS ρ T l e T).1) hr
    have e0 : (rdS ρ T l e T).1 r = 0 := by omega
    exact ⟨by rw [(hs'.1 r hr).1, e0]; rfl, by rw [hs'.2.1 r hr, e0]; rfl⟩
  · show p_X5_back_26 _ _ _ _ _ _ _ _ _ _
    unfold p_X5_back_26
    obtain ⟨s1, s2, s3⟩ := hs'
    obtain ⟨r1, r2, r3, r4⟩ := RD_all hT hQ hs hρ d (by omega)
    have hrho := hρ (T - d) (by omega) (by omega)
    obtain ⟨a1, a2, a3⟩ := r2.last (by omega) hrho
    have hr := hrho.1
    have hJ := r1.start hr a1 a3
    have hlen : ∀ i, i < 9 → (rdS ρ T l e d).1 i ≤ 40 := fun i hi => by have := sm_le (l := (rdS ρ T l e d).1) hi; omega
    have hlq : ∀ i, i < 9 → 1 ≤ (rdS ρ T l e d).1 i → lq (40 * i + ((rdS ρ T l e d).1 i - 1)) = nI (Q i ((rdS ρ T l e d).1 i - 1)) := fun i hi h1 => (hB i hi).2 _ (by have := r2.1 i hi; omega)
    refine pk_lt (T - d) 1 (fun q => by omega) (fun _ => ?_)
    refine pk_loop (fun u i (_ : Unit) => p_X5_back_33 lq post _ u s.1 le s.2.1 s.2.2.1 s.2.2.2 se (nI (T - d)) (nI i)) (fun i _ => i ≤ ρ (T - d)) (ρ (T - d)) 0 () (by omega) (Nat.zero_le _) (fun v _ _ => ?_) (fun v i _ hi _ ih2 => ?_)
    · show p_X5_back_33 _ _ _ _ _ _ _ _ _ _ _ _
      unfold p_X5_back_33
      have hr9 : vp_in (nI (ρ (T - d))) 9 := pk_in (ρ (T - d)) 9 hr
      have hl := hlen _ hr
      rw [nI_clamp (show ρ (T - d) < 2 ^ 31 by omega), s2 _ hr, (s1 _ hr).1, nI_m1 a1, pk_us, n40, n40, nI_m1 (by omega), nI_clamp (by omega), nI_clamp (by omega), show 40 * ρ (T - d) + (rdS ρ T l e d).1 (ρ (T - d)) - 1 = 40 * ρ (T - d) + ((rdS ρ T l e d).1 (ρ (T - d)) - 1) by omega, hlq _ hr a1, a2, (s1 _ hr).2 _ (by omega)]
      have hin : vp_in (nI (40 * ρ (T - d) + ((rdS ρ T l e d).1 (ρ (T - d)) - 1))) 360 := pk_in (40 * ρ (T - d) + ((rdS ρ T l e d).1 (ρ (T - d)) - 1)) 360 (by omega)
      refine ⟨hr9, pk_eq ((rdS ρ T l e d).1 (ρ (T - d))) 0 (fun q => by omega) (fun _ => ⟨hr9, hin, fun _ => ⟨hr9, hr9, hr9, hr9, hr9, hin, ρ (T - d) + 1, ?_⟩, fun q => absurd rfl q⟩)⟩
      have hup : ∀ i, i < 9 → ∀ (f : Nat → Int32), (∀ i, i < 9 → f i = nI ((rdS ρ T l e d).1 i)) → upd f (ρ (T - d)) (nI ((rdS ρ T l e d).1 (ρ (T - d)) - 1)) i = nI (lD (rdS ρ T l e d).1 (ρ (T - d)) i) := fun i hi f hf => by
        rw [upd_at]
        by_cases z : i = ρ (T - d)
        · rw [if_pos z, z, lD_s]
        · rw [if_neg z, lD_n z]; exact hf i hi
      refine m_up ⟨by omega, by omega⟩ (fun i hi => hup i hi _ (fun i hi => (s1 i hi).1)) (fun i hi => Nat.le_trans (lD_le _ _ _) (hlen i hi)) _ _ _ _ hr hJ (fun i hi c hc => (s1 i hi).2 c (Nat.lt_of_lt_of_le hc (lD_le _ _ _))) (fun lp' hlp => ?_)
      refine ih (_, lp', _, _) ⟨fun i hi => ⟨hup i hi _ (fun i hi => (s1 i hi).1), fun c hc => hlp i hi c hc⟩, fun i hi => hup i hi _ s2, fun t h1 h2 => ?_⟩
      show upd s.1 (T - d - 1) _ t = nI (if t = T - d - 1 then _ else _)
      rw [upd_at]
      by_cases z : t = T - d - 1
      · rw [if_pos z, if_pos z]
      · rw [if_neg z, if_neg z]; exact s3 t (by omega) h2
    · show p_X5_back_33 _ _ _ _ _ _ _ _ _ _ _ _
      unfold p_X5_back_33 p_X5_back_64
      have hi9 : vp_in (nI i) 9 := pk_in i 9 (by omega)
      have hl := hlen i (by omega)
      refine ⟨hi9, ?_⟩
      rw [nI_clamp (show i < 2 ^ 31 by omega), s2 i (by omega), nI_1]
      refine pk_eq ((rdS ρ T l e d).1 i) 0 (fun q => ih2 () (by omega)) (fun q => ⟨hi9, ?_⟩)
      rw [n40, nI_m1 (by omega), nI_clamp (by omega), show 40 * i + (rdS ρ T l e d).1 i - 1 = 40 * i + ((rdS ρ T l e d).1 i - 1) by omega, hlq i (by omega) (by omega)]
      have hq40 := r2.2.2.2.1 i (by omega) ((rdS ρ T l e d).1 i - 1) (by omega)
      refine ⟨pk_in (40 * i + ((rdS ρ T l e d).1 i - 1)) 360 (by omega), pk_eq (Q i ((rdS ρ T l e d).1 i - 1)) (T - d) (fun q2 => ?_) (fun _ => ih2 () (by omega))⟩
      have l1 := r2.1 i (by omega)
      have l2 := r2.1 _ hr
      have := (r2.2.2.2.2.2 i _ (ρ (T - d)) _ (by omega) (show (rdS ρ T l e d).1 i - 1 < l i by omega) hr (show (rdS ρ T l e d).1 (ρ (T - d)) - 1 < l (ρ (T - d)) by omega) (by rw [q2, a2])).1
      omega
