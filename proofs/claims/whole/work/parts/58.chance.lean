/-! chance: the reference's places, rows and sum -/
def colA (k : Nat) : Nat → (Nat → Nat) → Nat → Nat
  | 0, A => A
  | j + 1, A => gA (colA k j A) j k
def rowA (n k : Nat) : Nat → (Nat → Nat) → Nat → Nat
  | 0, A => A
  | i + 1, A => colA k n (rowA n k i A)
def BD (e : Nat) (A : Nat → Nat) : Prop := ∀ s, s < 729 → A s ≤ 2 ^ 24 * 9 ^ e
theorem BD_gA {e : Nat} {A : Nat → Nat} {col k : Nat} (hc : col < 3) (h : BD e A) : BD (e + 1) (gA A col k) := fun s hs => by
  have h1 := gA_le (k := k) hc h hs
  have e1 : 9 ^ (e + 1) = 9 ^ e * 9 := Nat.pow_succ 9 e
  rw [e1, ← Nat.mul_assoc, Nat.mul_comm _ 9]
  exact h1
theorem BD_col {e k : Nat} {A : Nat → Nat} (h : BD e A) : ∀ j, j ≤ 3 → BD (e + j) (colA k j A)
  | 0, _ => h
  | j + 1, hj => BD_gA (by omega) (BD_col h j (by omega))
theorem BD_row {n k : Nat} {A : Nat → Nat} (hn : n ≤ 3) (h : BD 0 A) : ∀ i, BD (n * i) (rowA n k i A)
  | 0 => h
  | i + 1 => by rw [Nat.mul_succ]; exact BD_col (BD_row hn h i) n hn
theorem BD_lt {e : Nat} {A : Nat → Nat} (he : e ≤ 9) (h : BD e A) (s : Nat) (hs : s < 729) : A s < 2 ^ 62 := by
  have h1 := h s hs
  have h2 : 9 ^ e ≤ 9 ^ 9 := Nat.pow_le_pow_right (by decide) he
  have h3 : 2 ^ 24 * 9 ^ e ≤ 2 ^ 24 * 9 ^ 9 := Nat.mul_le_mul_left _ h2
  have h4 : 2 ^ 24 * 9 ^ 9 < 2 ^ 62 := by decide
  exact Nat.lt_of_le_of_lt (Nat.le_trans h1 h3) h4
def A0 (e : Nat) : Nat → Nat := fun s => if s = 0 then 2 ^ e else 0
theorem BD_0 {e : Nat} (he : e ≤ 24) : BD 0 (A0 e) := fun s _ => by
  unfold A0
  have : 2 ^ e ≤ 2 ^ 24 := Nat.pow_le_pow_right (by decide) he
  by_cases z : s = 0
  · rw [if_pos z]; omega
  · rw [if_neg z]; exact Nat.zero_le _
theorem m_chance {m n k : Nat} (hm : 1 ≤ m ∧ m ≤ 3) (hn : 1 ≤ n ∧ n ≤ 3) (hk : k ≤ 8) {no ne : Nat → Int64} {post : Int64 → (Nat → Int64) → (Nat → Int64) → Prop} (h : ∀ no' ne', post (lN (sN (rowA n k m (A0 (k * min m n))) 729)) no' ne') : ∃ u, p_X5_chance_43 (nI m) (nI n) (nI k) post u no ne 0 := by
  have he : k * min m n ≤ 24 := by
    have : k * min m n ≤ 8 * 3 := Nat.mul_le_mul hk (by omega)
    omega
  have hB := BD_0 he
  refine pk_loop (fun u s no => p_X5_chance_43 (nI m) (nI n) (nI k) post u no ne (nI s)) (fun s no => ∀ i, i < s → no i = 0) 729 0 no (by omega) (fun i hi => absurd hi (Nat.not_lt_zero i)) (fun u no1 hno => ?_) (fun u s no1 hs hno ih => ?_)
  · show p_X5_chance_43 _ _ _ _ _ _ _ _
    unfold p_X5_chance_43
    refine pk_le 729 729 (fun _ => ?_) (fun q => by omega)
    have go : ∀ p, p = min m n → p_X5_chance_82 (nI m) (nI n) (nI k) post no1 ne (nI p) (nI k) 1 0 := by
      intro p hp
      have hp3 : p ≤ 3 := by omega
      unfold p_X5_chance_82
      refine ⟨pk_in 0 729 (by omega), ?_⟩
      rw [pk_mul, show (1 : Int64) = lN 1 from rfl, wb_shl 1 (show k * p < 64 by rw [hp]; omega), Nat.one_mul, show (0 : Int32).toNatClampNeg = 0 from rfl, hp]
      refine pk_loop (fun u i (s : (Nat → Int64) × (Nat → Int64)) => p_X5_chance_88 (nI m) (nI n) (nI k) post u s.1 s.2 (nI i)) (fun i s => ∀ t, t < 729 → s.1 t = lN (rowA n k i (A0 (k * min m n)) t)) m 0 (_, ne) (by omega) (fun t ht => ?_) (fun u s hs => ?_) (fun u i s hi hs ih => ?_)
      · show vp_updL no1 0 (lN (2 ^ (k * min m n))) t = lN (if t = 0 then _ else _)
        rw [vL_at]
        by_cases z : t = 0
        · rw [if_pos z, if_pos z]
        · rw [if_neg z, if_neg z, hno t ht]; rfl
      · show p_X5_chance_88 _ _ _ _ _ _ _ _
        unfold p_X5_chance_88
        refine pk_le m m (fun _ => ?_) (fun q => by omega)
        refine pk_loop (fun u t x => p_X5_chance_128 (nI m) (nI n) (nI k) post u s.1 s.2 x (nI t)) (fun t x => x = lN (sN (rowA n k m (A0 (k * min m n))) t)) 729 0 0 (by omega) rfl (fun u x hx => ?_) (fun u t x ht hx ih => ?_)
        · show p_X5_chance_128 _ _ _ _ _ _ _ _ _
          unfold p_X5_chance_128
          refine pk_le 729 729 (fun _ => ?_) (fun q => by omega)
          rw [hx]; exact h _ _
        · show p_X5_chance_128 _ _ _ _ _ _ _ _ _
          unfold p_X5_chance_128
          rw [nI_1, nI_clamp (by omega), hs t ht, hx, lN_add]
          exact pk_le 729 t (fun q => by omega) (fun _ => ⟨pk_in t 729 ht, ih _ rfl⟩)
      · show p_X5_chance_88 _ _ _ _ _ _ _ _
        unfold p_X5_chance_88
        refine pk_le m i (fun q => by omega) (fun _ => ?_)
        have hBi := BD_row (n := n) (k := k) hn.2 hB i
        have hni : n * i + n ≤ 9 := by
          have := Nat.mul_le_mul hn.2 (show i + 1 ≤ 3 by omega)
          rw [Nat.mul_succ] at this
          omega
        refine pk_loop (fun u j (s : (Nat → Int64) × (Nat → Int64)) => p_X5_chance_97 (nI m) (nI n) (nI k) post _ u s.1 s.2 (nI i) (nI j)) (fun j s => ∀ t, t < 729 → s.1 t = lN (colA k j (rowA n k i (A0 (k * min m n))) t)) n 0 (s.1, s.2) (by omega) hs (fun u' s' hs' => ?_) (fun u' j s' hj hs' ih2 => ?_)
        · show p_X5_chance_97 _ _ _ _ _ _ _ _ _ _
          unfold p_X5_chance_97
          refine pk_le n n (fun _ => ?_) (fun q => by omega)
          rw [nI_1]
          exact ih (s'.1, s'.2) hs'
        · show p_X5_chance_97 _ _ _ _ _ _ _ _ _ _
          unfold p_X5_chance_97
          refine pk_le n j (fun q => by omega) (fun _ => m_add (by omega) hk (BD_lt (by omega) (BD_col hBi j (by omega))) hs' (fun no' ne' h' => ?_))
          rw [nI_1]
          exact ih2 (no', ne') h'
    exact pk_le n m (fun q => go n (by omega)) (fun q => go m (by omega))
  · show p_X5_chance_43 _ _ _ _ _ _ _ _
    unfold p_X5_chance_43
    rw [nI_1, nI_clamp (by omega)]
    refine pk_le 729 s (fun q => by omega) (fun _ => ⟨pk_in s 729 hs, ih _ (fun i hi => ?_)⟩)
    rw [vL_at]
    by_cases z : i = s
    · rw [if_pos z]
    · rw [if_neg z]; exact hno i (by omega)
/-! the same in one number, so that it can be reckoned out -/
def dig (N s : Nat) : Nat := (N >>> (64 * s)) % 2 ^ 64
def encS (f : Nat → Nat) : Nat → Nat
  | 0 => 0
  | S + 1 => encS f S + (f S) <<< (64 * S)
theorem encS_lt {f : Nat → Nat} : ∀ S, (∀ s, s < S → f s < 2 ^ 64) → encS f S < 2 ^ (64 * S)
  | 0, _ => Nat.one_pos
  | S + 1, h => by
    show encS f S + (f S) <<< (64 * S) < 2 ^ (64 * (S + 1))
    have h1 := encS_lt S (fun s hs => h s (by omega))
    have h2 := h S (by omega)
    rw [Nat.shiftLeft_eq, Nat.mul_succ, Nat.pow_add]
    have h3 : f S * 2 ^ (64 * S) ≤ (2 ^ 64 - 1) * 2 ^ (64 * S) := Nat.mul_le_mul_right _ (by omega)
    have h4 : (2 ^ 64 - 1) * 2 ^ (64 * S) + 2 ^ (64 * S) = 2 ^ (64 * S) * 2 ^ 64 := by
      rw [Nat.sub_mul, Nat.one_mul, Nat.mul_comm (2 ^ (64 * S))]
      have : 2 ^ (64 * S) ≤ 2 ^ 64 * 2 ^ (64 * S) := Nat.le_mul_of_pos_left _ (by decide)
      omega
    omega
theorem dig_enc {f : Nat → Nat} : ∀ S, (∀ s, s < S → f s < 2 ^ 64) → ∀ s, s < S → dig (encS f S) s = f s
  | 0, _, s, hs => absurd hs (Nat.not_lt_zero s)
  | S + 1, h, s, hs => by
    show dig (encS f S + (f S) <<< (64 * S)) s = f s
    unfold dig
    rw [Nat.shiftRight_eq_div_pow, Nat.shiftLeft_eq]
    by_cases e : s = S
    · subst e
      rw [Nat.add_mul_div_right _ _ (Nat.two_pow_pos _), Nat.div_eq_of_lt (encS_lt s (fun i hi => h i (by omega))), Nat.zero_add, Nat.mod_eq_of_lt (h s (by omega))]
    · have ih := dig_enc S (fun i hi => h i (by omega)) s (by omega)
      unfold dig at ih
      rw [Nat.shiftRight_eq_div_pow] at ih
      have e1 : 2 ^ (64 * S) = 2 ^ 64 * 2 ^ (64 * (S - s - 1)) * 2 ^ (64 * s) := by
        rw [← Nat.pow_add, ← Nat.pow_add]
        congr 1
        omega
      rw [e1, ← Nat.mul_assoc, Nat.add_mul_div_right _ _ (Nat.two_pow_pos _), Nat.mul_left_comm, Nat.add_mul_mod_self_left]
      exact ih
def encN (f : Nat → Nat) : Nat := encS f 729
theorem dig_encN {f : Nat → Nat} (h : ∀ s, s < 729 → f s < 2 ^ 64) {s : Nat} (hs : s < 729) : dig (encN f) s = f s := by
  unfold encN
  exact dig_enc 729 h s hs
def kk (n k c : Nat) : Nat := if c < n then k else 0
def gE (N n k col s : Nat) : Nat := if kk n k 0 < dg s 0 ∨ kk n k 1 < dg s 1 ∨ kk n k 2 < dg s 2 then 0 else gA (dig N) col k s
def frc (N : Nat) (f : Nat → Nat) : Nat := Nat.casesOn N (f 0) (fun m => f (m + 1))
def eCols (g : Nat → Nat → (Nat → Nat) → Nat) : Nat → Nat → (Nat → Nat) → Nat
  | 0, N, f => f N
  | j + 1, N, f => eCols g j N (fun N' => g j N' f)
def eRows (g : Nat → (Nat → Nat) → Nat) : Nat → Nat → (Nat → Nat) → Nat
  | 0, N, f => f N
  | i + 1, N, f => eRows g i N (fun N' => g N' f)
def itC (t : Nat → Nat → Nat) : Nat → Nat → Nat
  | 0, N => N
  | j + 1, N => t j (itC t j N)
def itR (t : Nat → Nat) : Nat → Nat → Nat
  | 0, N => N
  | i + 1, N => t (itR t i N)
theorem frc_eq (N : Nat) (f : Nat → Nat) : frc N f = f N := by cases N <;> rfl
theorem eCols_eq {g : Nat → Nat → (Nat → Nat) → Nat} {t : Nat → Nat → Nat} (h : ∀ j N f, g j N f = f (t j N)) : ∀ j N f, eCols g j N f = f (itC t j N) := by
  intro j
  induction j with
  | zero => intro N f; rw [eCols, itC]
  | succ j ih => intro N f; rw [eCols, ih, h, itC]
theorem eRows_eq {g : Nat → (Nat → Nat) → Nat} {t : Nat → Nat} (h : ∀ N f, g N f = f (t N)) : ∀ i N f, eRows g i N f = f (itR t i N) := by
  intro i
  induction i with
  | zero => intro N f; rw [eRows, itR]
  | succ i ih => intro N f; rw [eRows, ih, h, itR]
def tC (n k j N : Nat) : Nat := encN (gE N n k j)
def tR (n k N : Nat) : Nat := itC (tC n k) n N
def gC (n k j N : Nat) (f : Nat → Nat) : Nat := frc (tC n k j N) f
def gR (n k N : Nat) (f : Nat → Nat) : Nat := eCols (gC n k) n N f
def sumD (N : Nat) : Nat := sN (dig N) 729
def mV (m n k : Nat) : Nat := eRows (gR n k) m (2 ^ (k * min m n)) sumD
theorem gC_eq (n k j N : Nat) (f : Nat → Nat) : gC n k j N f = f (tC n k j N) := frc_eq (tC n k j N) f
theorem gR_eq (n k N : Nat) (f : Nat → Nat) : gR n k N f = f (tR n k N) := eCols_eq (gC_eq n k) n N f
theorem mV_it (m n k : Nat) : mV m n k = sumD (itR (tR n k) m (2 ^ (k * min m n))) := eRows_eq (gR_eq n k) m _ sumD
theorem dig_tC {n k j N s : Nat} (h : ∀ s, s < 729 → gE N n k j s < 2 ^ 64) (hs : s < 729) : dig (tC n k j N) s = gE N n k j s := dig_encN h hs
/-- where the numbers may stand -/
def ZZ (n k : Nat) (A : Nat → Nat) : Prop := ∀ s, s < 729 → A s ≠ 0 → dg s 0 ≤ kk n k 0 ∧ dg s 1 ≤ kk n k 1 ∧ dg s 2 ≤ kk n k 2
theorem ZZ_gA {n k col : Nat} {A : Nat → Nat} (hn : n ≤ 3) (hc : col < n) (h : ZZ n k A) : ZZ n k (gA A col k) := fun s hs hne => by
  unfold gA at hne
  by_cases q : k < dg s col ∨ dg s col < lf s col
  · rw [if_pos q] at hne; exact absurd rfl hne
  · rw [if_neg q] at hne
    have h9 := dg_lt s col
    have ex : ∃ o, o < dg s col + 1 ∧ A (s - dg s col * pw col + o * pw col) ≠ 0 := by
      refine Classical.byContradiction fun z => hne (sN_zero _ (fun o ho => ?_))
      have : A (s - dg s col * pw col + o * pw col) = 0 := Classical.byContradiction fun y => z ⟨o, ho, y⟩
      rw [this, Nat.zero_div]
    obtain ⟨o, ho, hA⟩ := ex
    obtain ⟨t1, -, -⟩ := src_ok (s := s) (col := col) (o := o) (by omega) hs (by omega)
    obtain ⟨z0, z1, z2⟩ := h _ t1 hA
    have hkc : kk n k col = k := if_pos hc
    rcases c3 (show col < 3 by omega) with rfl | rfl | rfl
    · simp only [dg_0, dg_1, dg_2, pw_0] at *
      omega
    · simp only [dg_0, dg_1, dg_2, pw_1] at *
      omega
    · simp only [dg_0, dg_1, dg_2, pw_2] at *
      omega
theorem RP_col {n k e : Nat} {A : Nat → Nat} {N : Nat} (hn : n ≤ 3) (hB : BD e A) (hZ : ZZ n k A) (hN : ∀ s, s < 729 → dig N s = A s) : ∀ j, j ≤ n → e + j ≤ 9 → ZZ n k (colA k j A) ∧ ∀ s, s < 729 → dig (itC (tC n k) j N) s = colA k j A s
  | 0, _, _ => ⟨hZ, hN⟩
  | j + 1, hj, he => by
    obtain ⟨i1, i2⟩ := RP_col hn hB hZ hN j (by omega) (by omega)
    have hZ' := ZZ_gA (k := k) hn (show j < n by omega) i1
    have hB' := BD_gA (k := k) (show j < 3 by omega) (BD_col (k := k) hB j (by omega))
    have hg : ∀ s, s < 729 → gE (itC (tC n k) j N) n k j s = gA (colA k j A) j k s := fun s hs => by
      unfold gE
      by_cases q : kk n k 0 < dg s 0 ∨ kk n k 1 < dg s 1 ∨ kk n k 2 < dg s 2
      · rw [if_pos q]
        refine Classical.byContradiction fun z => ?_
        have := hZ' s hs (fun y => z y.symm)
        omega
      · rw [if_neg q]
        exact gA_congr (by omega) i2 hs
    refine ⟨hZ', fun s hs => ?_⟩
    have e1 : colA k (j + 1) A = gA (colA k j A) j k := by rw [colA]
    have e2 : itC (tC n k) (j + 1) N = tC n k j (itC (tC n k) j N) := by rw [itC]
    rw [e2, e1, dig_tC (fun s hs => ?_) hs, hg s hs]
    rw [hg s hs]
    have := BD_lt (e := e + j + 1) (by omega) hB' s hs
    omega
theorem RP_row {n k : Nat} {A : Nat → Nat} {N : Nat} (hn : n ≤ 3) (hB : BD 0 A) (hZ : ZZ n k A) (hN : ∀ s, s < 729 → dig N s = A s) : ∀ i, i ≤ 3 → ZZ n k (rowA n k i A) ∧ ∀ s, s < 729 → dig (itR (tR n k) i N) s = rowA n k i A s
  | 0, _ => ⟨hZ, hN⟩
  | i + 1, hi => by
    obtain ⟨i1, i2⟩ := RP_row hn hB hZ hN i (by omega)
    have hni : n * i + n ≤ 9 := by
      have := Nat.mul_le_mul hn (show i + 1 ≤ 3 by omega)
      rw [Nat.mul_succ] at this
      omega
    have e1 : rowA n k (i + 1) A = colA k n (rowA n k i A) := by rw [rowA]
    have e2 : itR (tR n k) (i + 1) N = itC (tC n k) n (itR (tR n k) i N) := by rw [itR, tR]
    rw [e1, e2]
    exact RP_col hn (BD_row hn hB i) i1 i2 n (Nat.le_refl n) hni
theorem mV_eq {m n k : Nat} (hm : m ≤ 3) (hn : n ≤ 3) (hk : k ≤ 8) : sN (rowA n k m (A0 (k * min m n))) 729 = mV m n k := by
  have he : k * min m n ≤ 24 := by
    have : k * min m n ≤ 8 * 3 := Nat.mul_le_mul hk (by omega)
    omega
  have h64 : 2 ^ (k * min m n) < 2 ^ 64 := Nat.pow_lt_pow_right (by decide) (by omega)
  have h0 : ∀ s, s < 729 → dig (2 ^ (k * min m n)) s = A0 (k * min m n) s := fun s hs => by
    unfold dig A0
    rw [Nat.shiftRight_eq_div_pow]
    by_cases z : s = 0
    · subst z
      rw [if_pos rfl, Nat.mul_zero, Nat.pow_zero, Nat.div_one, Nat.mod_eq_of_lt h64]
    · rw [if_neg z]
      have : 2 ^ (k * min m n) < 2 ^ (64 * s) := Nat.pow_lt_pow_right (by decide) (by omega)
      rw [Nat.div_eq_of_lt this, Nat.zero_mod]
  have hZ : ZZ n k (A0 (k * min m n)) := fun s hs hne => by
    have : s = 0 := Classical.byContradiction fun z => hne (if_neg z)
    subst this
    exact ⟨Nat.zero_le _, Nat.zero_le _, Nat.zero_le _⟩
  have h7 := (RP_row (n := n) (k := k) hn (BD_0 he) hZ h0 m hm).2
  rw [mV_it]
  unfold sumD
  exact sN_congr 729 (fun s hs => (h7 s hs).symm)
