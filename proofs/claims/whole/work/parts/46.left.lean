/-! LEFT OUT: sets of BARS and what they bring -/
def wS (W : Nat → Nat) (p : Nat → Bool) : Nat → Nat
  | 0 => 0
  | b + 1 => wS W p b + if p b then W b else 0
def rmv (p : Nat → Bool) (t : Nat) : Nat → Bool := fun b => p b && !decide (t = b)
theorem wS_cong {W : Nat → Nat} {p q : Nat → Bool} : ∀ {n : Nat}, (∀ k, k < n → p k = q k) → wS W p n = wS W q n
  | 0, _ => rfl
  | n + 1, h => by unfold wS; rw [wS_cong (fun k hk => h k (by omega)), h n (by omega)]
theorem wS_rmv (W : Nat → Nat) (p : Nat → Bool) {t : Nat} (hp : p t = true) : ∀ n, wS W p n = wS W (rmv p t) n + if t < n then W t else 0
  | 0 => by simp [wS]
  | n + 1 => by
    unfold wS
    rw [wS_rmv W p hp n]
    by_cases e : t = n
    · subst e
      rw [if_neg (Nat.lt_irrefl _), if_pos hp, if_pos (Nat.lt_succ_self _), if_neg (by simp [rmv])]
    · have : rmv p t n = p n := by simp [rmv, e]
      rw [this]
      by_cases h2 : t < n
      · rw [if_pos h2, if_pos (show t < n + 1 by omega)]; omega
      · rw [if_neg h2, if_neg (show ¬ t < n + 1 by omega)]; omega
theorem cnt_wS (p : Nat → Bool) : ∀ n, cnt p n = wS (fun _ => 1) p n
  | 0 => rfl
  | n + 1 => by unfold cnt wS; rw [cnt_wS p n]
theorem cnt_rmv {p : Nat → Bool} {t n : Nat} (hp : p t = true) (ht : t < n) : cnt p n = cnt (rmv p t) n + 1 := by
  rw [cnt_wS, cnt_wS, wS_rmv _ p hp n, if_pos ht]
theorem cnt_mem {p : Nat → Bool} : ∀ {n : Nat}, cnt p n ≠ 0 → ∃ b, b < n ∧ p b = true
  | 0, h => (h rfl).elim
  | n + 1, h => by
    by_cases hp : p n = true
    · exact ⟨n, by omega, hp⟩
    · unfold cnt at h
      rw [if_neg hp, Nat.add_zero] at h
      obtain ⟨b, h1, h2⟩ := cnt_mem h
      exact ⟨b, by omega, h2⟩
theorem wS_0 {W : Nat → Nat} {p : Nat → Bool} : ∀ {n : Nat}, (∀ b, b < n → p b = false) → wS W p n = 0
  | 0, _ => rfl
  | n + 1, h => by unfold wS; rw [wS_0 (fun b hb => h b (by omega)), h n (by omega)]; rfl
theorem cnt_z {p : Nat → Bool} {n : Nat} (h : ∀ b, b < n → p b = false) : cnt p n = 0 := by rw [cnt_wS]; exact wS_0 h
theorem cnt_no {p : Nat → Bool} {n : Nat} (h : cnt p n = 0) (b : Nat) (hb : b < n) : p b = false := by
  cases e : p b with
  | false => rfl
  | true => have := cnt_pos hb e; omega
theorem wS_le {W : Nat → Nat} {p : Nat → Bool} {w : Nat} (hw : ∀ b, W b ≤ w) : ∀ n, wS W p n ≤ w * n
  | 0 => Nat.zero_le _
  | n + 1 => by
    have := wS_le (p := p) hw n
    have := hw n
    unfold wS
    rw [Nat.mul_succ]
    split <;> omega
/-- the dearest -/
def dea (W : Nat → Nat) (L : Nat → Bool) : Nat → Nat × Int
  | 0 => (0, -1)
  | b + 1 => if L b = true ∧ (dea W L b).2 < (W b : Int) then (b, (W b : Int)) else dea W L b
theorem dea_ok (W : Nat → Nat) (L : Nat → Bool) : ∀ n, -1 ≤ (dea W L n).2 ∧ (∀ b, b < n → L b = true → (W b : Int) ≤ (dea W L n).2) ∧ ((dea W L n).2 = -1 ∧ (dea W L n).1 = 0 ∨ (dea W L n).1 < n ∧ L (dea W L n).1 = true ∧ (dea W L n).2 = (W (dea W L n).1 : Int))
  | 0 => ⟨Int.le_refl _, fun b hb => absurd hb (Nat.not_lt_zero b), .inl ⟨rfl, rfl⟩⟩
  | n + 1 => by
    obtain ⟨h1, h2, h3⟩ := dea_ok W L n
    have e : dea W L (n + 1) = if L n = true ∧ (dea W L n).2 < (W n : Int) then (n, (W n : Int)) else dea W L n := rfl
    rw [e]
    by_cases hc : L n = true ∧ (dea W L n).2 < (W n : Int)
    · rw [if_pos hc]
      refine ⟨by show -1 ≤ (W n : Int); omega, fun b hb hL => ?_, .inr ⟨Nat.lt_succ_self _, hc.1, rfl⟩⟩
      show (W b : Int) ≤ (W n : Int)
      by_cases e : b = n
      · subst e; exact Int.le_refl _
      · have := h2 b (by omega) hL; omega
    · rw [if_neg hc]
      refine ⟨h1, fun b hb hL => ?_, ?_⟩
      · by_cases e : b = n
        · subst e
          have : ¬ (dea W L b).2 < (W b : Int) := fun q => hc ⟨hL, q⟩
          omega
        · exact h2 b (by omega) hL
      · rcases h3 with h | ⟨h, h'⟩
        · exact .inl h
        · exact .inr ⟨by omega, h'⟩
theorem dea_in {W : Nat → Nat} {L : Nat → Bool} {n : Nat} (h : cnt L n ≠ 0) : (dea W L n).1 < n ∧ L (dea W L n).1 = true ∧ ∀ b, b < n → L b = true → W b ≤ W (dea W L n).1 := by
  obtain ⟨h1, h2, h3⟩ := dea_ok W L n
  obtain ⟨b, hb, hL⟩ := cnt_mem h
  have := h2 b hb hL
  rcases h3 with h | ⟨h4, h5, h6⟩
  · omega
  · refine ⟨h4, h5, fun b' hb' hL' => ?_⟩
    have := h2 b' hb' hL'
    omega
/-- the most that n of L bring -/
def mo (W : Nat → Nat) (B : Nat) : Nat → (Nat → Bool) → Nat
  | 0, _ => 0
  | n + 1, L => if cnt L B = 0 then 0 else W (dea W L B).1 + mo W B n (rmv L (dea W L B).1)
def jsub (p L : Nat → Bool) (B : Nat) : Prop := ∀ b, b < B → p b = true → L b = true
theorem mo_a (W : Nat → Nat) (B : Nat) : ∀ n L, ∃ p, jsub p L B ∧ cnt p B ≤ n ∧ wS W p B = mo W B n L
  | 0, L => ⟨fun _ => false, fun _ _ h => (Bool.false_ne_true h).elim, by rw [cnt_z (fun _ _ => rfl)]; omega, wS_0 (fun _ _ => rfl)⟩
  | n + 1, L => by
    unfold mo
    by_cases h : cnt L B = 0
    · rw [if_pos h]
      exact ⟨fun _ => false, fun _ _ h => (Bool.false_ne_true h).elim, by rw [cnt_z (fun _ _ => rfl)]; omega, wS_0 (fun _ _ => rfl)⟩
    · rw [if_neg h]
      obtain ⟨h1, h2, h3⟩ := dea_in (W := W) h
      obtain ⟨p, q1, q2, q3⟩ := mo_a W B n (rmv L (dea W L B).1)
      generalize (dea W L B).1 = t at h1 h2 h3 q1 q3 ⊢
      have hpt : p t = false := by
        cases e : p t with
        | false => rfl
        | true => have := q1 t h1 e; simp [rmv] at this
      have hp' : (fun b => p b || decide (t = b)) t = true := by simp
      have er : ∀ b, b < B → rmv (fun b => p b || decide (t = b)) t b = p b := by
        intro b _
        by_cases e : t = b
        · subst e; simp [rmv, hpt]
        · simp [rmv, e]
      refine ⟨fun b => p b || decide (t = b), fun b hb hpb => ?_, ?_, ?_⟩
      · by_cases e : t = b
        · subst e; exact h2
        · have : p b = true := by simpa [e] using hpb
          have := q1 b hb this
          simp [rmv] at this
          exact this.1
      · rw [cnt_rmv hp' h1, cnt_cong er]; omega
      · rw [wS_rmv W _ hp' B, if_pos h1, wS_cong er, q3]; omega
theorem mo_b (W : Nat → Nat) (B : Nat) : ∀ n L p, jsub p L B → cnt p B ≤ n → wS W p B ≤ mo W B n L
  | 0, L, p, h, hn => by rw [wS_0 (cnt_no (by omega))]; exact Nat.zero_le _
  | n + 1, L, p, h, hn => by
    by_cases hp : cnt p B = 0
    · rw [wS_0 (cnt_no hp)]; exact Nat.zero_le _
    · have hL : cnt L B ≠ 0 := by
        obtain ⟨b, hb, e⟩ := cnt_mem hp
        have := cnt_pos hb (h b hb e); omega
      unfold mo
      rw [if_neg hL]
      obtain ⟨h1, h2, h3⟩ := dea_in (W := W) hL
      generalize (dea W L B).1 = t at h1 h2 h3 ⊢
      obtain ⟨u, hu, hpu, hut⟩ : ∃ u, u < B ∧ p u = true ∧ (u = t ∨ p t = false) := by
        cases e : p t with
        | true => exact ⟨t, h1, e, .inl rfl⟩
        | false => obtain ⟨b, hb, eb⟩ := cnt_mem hp; exact ⟨b, hb, eb, .inr rfl⟩
      have i := mo_b W B n (rmv L t) (rmv p u) (fun b hb hr => by
        simp [rmv] at hr ⊢
        refine ⟨h b hb hr.1, fun e => ?_⟩
        rcases hut with e2 | e2
        · exact hr.2 (e2.trans e)
        · rw [e, hr.1] at e2; cases e2) (by have := cnt_rmv hpu hu; omega)
      have i2 := wS_rmv W p hpu B
      rw [if_pos hu] at i2
      have := h3 u hu (h u hu hpu)
      omega
def okS (W : Nat → Nat) (B : Nat) (L : Nat → Bool) (n : Nat) (need : Int) : Prop := ∃ p, jsub p L B ∧ cnt p B ≤ n ∧ need ≤ (wS W p B : Int)
theorem mo_ok {W : Nat → Nat} {B : Nat} {L : Nat → Bool} {n : Nat} {need : Int} : need ≤ (mo W B n L : Int) ↔ okS W B L n need := by
  constructor
  · intro h
    obtain ⟨p, h1, h2, h3⟩ := mo_a W B n L
    exact ⟨p, h1, h2, by rw [h3]; exact h⟩
  · rintro ⟨p, h1, h2, h3⟩
    have := mo_b W B n L p h1 h2
    omega
theorem mo_le {W : Nat → Nat} {w : Nat} (hw : ∀ b, W b ≤ w) (B n : Nat) (L : Nat → Bool) : mo W B n L ≤ w * B := by
  obtain ⟨p, h1, h2, h3⟩ := mo_a W B n L
  rw [← h3]; exact wS_le hw B
/-- the least number of a set that brings enough -/
def lst (W : Nat → Nat) (B pl : Nat) : Nat → Nat → Int → Nat
  | 0, _, _ => 0
  | b + 1, n, need => if pl.testBit b = true ∧ (mo W B n (Nat.testBit (pl % 2 ^ b)) : Int) < need then 2 ^ b + lst W B pl b (n - 1) (need - W b) else lst W B pl b n need
theorem pw_bit {s b : Nat} (h : s < 2 ^ b) (i : Nat) : (2 ^ b + s).testBit i = (s.testBit i || decide (b = i)) := by
  have := Nat.two_pow_add_eq_or_of_lt h 1
  rw [Nat.mul_one] at this
  rw [this, Nat.testBit_or, Nat.testBit_two_pow, Bool.or_comm]
theorem lt_bit {s b : Nat} (h : s < 2 ^ b) : s.testBit b = false := Nat.testBit_lt_two_pow h
theorem top_bit {t b : Nat} (h : t < 2 ^ (b + 1)) (hb : t.testBit b = true) : 2 ^ b ≤ t := by
  rcases Nat.lt_or_ge t (2 ^ b) with q | q
  · rw [lt_bit q] at hb; cases hb
  · exact q
theorem top_no {t b : Nat} (h : t < 2 ^ (b + 1)) (hb : t.testBit b = false) : t < 2 ^ b := by
  rcases Nat.lt_or_ge t (2 ^ b) with q | q
  · exact q
  · exfalso
    obtain ⟨u, rfl⟩ : ∃ u, t = 2 ^ b + u := ⟨t - 2 ^ b, by omega⟩
    rw [Nat.pow_succ] at h
    rw [pw_bit (by omega)] at hb
    simp at hb
theorem lst_ok {W : Nat → Nat} {B pl : Nat} (hB : ∀ i, pl.testBit i = true → i < B) : ∀ b n need, okS W B (Nat.testBit (pl % 2 ^ b)) n need →
    lst W B pl b n need < 2 ^ b ∧ (∀ i, (lst W B pl b n need).testBit i = true → pl.testBit i = true) ∧ cnt (Nat.testBit (lst W B pl b n need)) B ≤ n ∧ need ≤ (wS W (Nat.testBit (lst W B pl b n need)) B : Int) ∧
    ∀ t, t < 2 ^ b → (∀ i, t.testBit i = true → pl.testBit i = true) → cnt (Nat.testBit t) B ≤ n → need ≤ (wS W (Nat.testBit t) B : Int) → lst W B pl b n need ≤ t
  | 0, n, need, ⟨p, h1, h2, h3⟩ => by
    have hz : ∀ b, b < B → p b = false := by
      intro b hb
      cases e : p b with
      | false => rfl
      | true => have := h1 b hb e; rw [Nat.pow_zero, Nat.mod_one, Nat.zero_testBit] at this; cases this
    rw [wS_0 hz] at h3
    unfold lst
    refine ⟨by decide, fun i hi => ?_, ?_, ?_, fun t _ _ _ _ => Nat.zero_le t⟩
    · rw [Nat.zero_testBit] at hi; cases hi
    · rw [cnt_z (fun b _ => Nat.zero_testBit b)]; omega
    · rw [wS_0 (fun b _ => Nat.zero_testBit b)]; exact h3
  | b + 1, n, need, hok => by
    have el : lst W B pl (b + 1) n need = if pl.testBit b = true ∧ (mo W B n (Nat.testBit (pl % 2 ^ b)) : Int) < need then 2 ^ b + lst W B pl b (n - 1) (need - W b) else lst W B pl b n need := rfl
    have hsub : ∀ q : Nat → Bool, jsub q (Nat.testBit (pl % 2 ^ (b + 1))) B → q b = false → jsub q (Nat.testBit (pl % 2 ^ b)) B := by
      intro q hq hb i hi hqi
      have := hq i hi hqi
      rw [Nat.testBit_mod_two_pow] at this ⊢
      simp only [Bool.and_eq_true, decide_eq_true_eq] at this ⊢
      refine ⟨?_, this.2⟩
      have : i ≠ b := fun e => by rw [e, hb] at hqi; cases hqi
      omega
    rw [el]
    by_cases hc : pl.testBit b = true ∧ (mo W B n (Nat.testBit (pl % 2 ^ b)) : Int) < need
    · rw [if_pos hc]
      have hbB := hB b hc.1
      have must : ∀ q : Nat → Bool, jsub q (Nat.testBit (pl % 2 ^ (b + 1))) B → cnt q B ≤ n → need ≤ (wS W q B : Int) → q b = true := by
        intro q hq h2 h3
        cases e : q b with
        | true => rfl
        | false => have := mo_ok.mpr ⟨q, hsub q hq e, h2, h3⟩; omega
      have less : ∀ q : Nat → Bool, q b = true → cnt q B ≤ n → need ≤ (wS W q B : Int) → 1 ≤ n ∧ cnt (rmv q b) B ≤ n - 1 ∧ need - W b ≤ (wS W (rmv q b) B : Int) := by
        intro q hq h2 h3
        have e1 := cnt_rmv hq hbB
        have e2 := wS_rmv W q hq B
        rw [if_pos hbB] at e2
        exact ⟨by omega, by omega, by omega⟩
      obtain ⟨p, h1, h2, h3⟩ := hok
      have hpb := must p h1 h2 h3
      obtain ⟨hn, l2, l3⟩ := less p hpb h2 h3
      obtain ⟨i1, i2, i3, i4, i5⟩ := lst_ok hB b (n - 1) (need - W b) ⟨rmv p b, hsub _ (fun i hi hr => h1 i hi (by simp [rmv] at hr; exact hr.1)) (by simp [rmv]), l2, l3⟩
      generalize lst W B pl b (n - 1) (need - W b) = s at i1 i2 i3 i4 i5 ⊢
      have er : ∀ i, i < B → rmv (Nat.testBit (2 ^ b + s)) b i = s.testBit i := by
        intro i _
        unfold rmv
        rw [pw_bit i1]
        by_cases e : b = i
        · subst e; simp [lt_bit i1]
        · simp [e]
      have etop : Nat.testBit (2 ^ b + s) b = true := by rw [pw_bit i1]; simp
      refine ⟨by rw [Nat.pow_succ]; omega, fun i hi => ?_, ?_, ?_, fun t t1 t2 t3 t4 => ?_⟩
      · rw [pw_bit i1] at hi
        by_cases e : b = i
        · subst e; exact hc.1
        · exact i2 i (by simpa [e] using hi)
      · rw [cnt_rmv etop hbB, cnt_cong er]
        have : cnt (fun i => s.testBit i) B ≤ n - 1 := i3
        omega
      · rw [wS_rmv W _ etop B, if_pos hbB, wS_cong er]
        have : need - W b ≤ (wS W (fun i => s.testBit i) B : Int) := i4
        omega
      · have htb := must (Nat.testBit t) (fun i _ hi => by rw [Nat.testBit_mod_two_pow, t2 i hi]; simp; rcases Nat.lt_or_ge i (b + 1) with q | q; exact q; rw [Nat.testBit_lt_two_pow (Nat.lt_of_lt_of_le t1 (Nat.pow_le_pow_right (by decide) q))] at hi; cases hi) t3 t4
        obtain ⟨-, u2, u3⟩ := less _ htb t3 t4
        have hge := top_bit t1 htb
        obtain ⟨u, rfl⟩ : ∃ u, t = 2 ^ b + u := ⟨t - 2 ^ b, by omega⟩
        have hu : u < 2 ^ b := by rw [Nat.pow_succ] at t1; omega
        have eu : ∀ i, i < B → rmv (Nat.testBit (2 ^ b + u)) b i = u.testBit i := by
          intro i _
          unfold rmv
          rw [pw_bit hu]
          by_cases e : b = i
          · subst e; simp [lt_bit hu]
          · simp [e]
        rw [cnt_cong eu] at u2
        rw [wS_cong eu] at u3
        have := i5 u hu (fun i hi => t2 i (by rw [pw_bit hu, hi]; rfl)) u2 u3
        omega
    · rw [if_neg hc]
      have hok' : okS W B (Nat.testBit (pl % 2 ^ b)) n need := by
        by_cases hb : pl.testBit b = true
        · exact mo_ok.mp (by have : ¬ (mo W B n (Nat.testBit (pl % 2 ^ b)) : Int) < need := fun q => hc ⟨hb, q⟩
                             omega)
        · obtain ⟨p, h1, h2, h3⟩ := hok
          refine ⟨p, fun i hi hpi => ?_, h2, h3⟩
          have := h1 i hi hpi
          rw [Nat.testBit_mod_two_pow] at this ⊢
          simp only [Bool.and_eq_true, decide_eq_true_eq] at this ⊢
          refine ⟨?_, this.2⟩
          have : i ≠ b := fun e => hb (e ▸ this.2)
          omega
      obtain ⟨i1, i2, i3, i4, i5⟩ := lst_ok hB b n need hok'
      refine ⟨by rw [Nat.pow_succ]; omega, i2, i3, i4, fun t t1 t2 t3 t4 => ?_⟩
      rcases Nat.lt_or_ge t (2 ^ b) with q | q
      · exact i5 t q t2 t3 t4
      · omega
/-- the first of those with the fewest -/
def mbest (g : Nat → Bool) (k : Nat → Nat) : Nat → Option Nat
  | 0 => none
  | s + 1 => match mbest g k s with
    | none => if g s then some s else none
    | some t => if g s && decide (k s < k t) then some s else some t
theorem mb_ok (g : Nat → Bool) (k : Nat → Nat) : ∀ n, (mbest g k n = none → ∀ s, s < n → g s = false) ∧ ∀ s, mbest g k n = some s → s < n ∧ g s = true ∧ ∀ t, t < n → g t = true → k s ≤ k t ∧ (k t = k s → s ≤ t)
  | 0 => ⟨fun _ s hs => absurd hs (Nat.not_lt_zero s), fun s h => (by cases h)⟩
  | n + 1 => by
    obtain ⟨h1, h2⟩ := mb_ok g k n
    have e : mbest g k (n + 1) = match mbest g k n with
      | none => if g n then some n else none
      | some t => if g n && decide (k n < k t) then some n else some t := rfl
    rw [e]
    cases hm : mbest g k n with
    | none =>
      have h1 := h1 hm
      by_cases hg : g n = true
      · simp only [if_pos hg]
        refine ⟨fun h => (by cases h), fun s h => ?_⟩
        cases h
        refine ⟨by omega, hg, fun t ht hgt => ?_⟩
        by_cases et : t = n
        · subst et; exact ⟨Nat.le_refl _, fun _ => Nat.le_refl _⟩
        · rw [h1 t (by omega)] at hgt; cases hgt
      · simp only [if_neg hg]
        refine ⟨fun _ s hs => ?_, fun s h => (by cases h)⟩
        by_cases et : s = n
        · subst et; simpa using hg
        · exact h1 s (by omega)
    | some t =>
      obtain ⟨h3, h4, h5⟩ := h2 t hm
      by_cases hg : (g n && decide (k n < k t)) = true
      · simp only [if_pos hg]
        simp only [Bool.and_eq_true, decide_eq_true_eq] at hg
        refine ⟨fun h => (by cases h), fun s h => ?_⟩
        cases h
        refine ⟨by omega, hg.1, fun u hu hgu => ?_⟩
        by_cases et : u = n
        · subst et; exact ⟨Nat.le_refl _, fun _ => Nat.le_refl _⟩
        · have := h5 u (by omega) hgu
          exact ⟨by omega, fun _ => by omega⟩
      · simp only [if_neg hg]
        refine ⟨fun h => (by cases h), fun s h => ?_⟩
        cases h
        refine ⟨by omega, h4, fun u hu hgu => ?_⟩
        by_cases et : u = n
        · subst et
          have : ¬ k u < k t := fun q => hg (by simp [hgu, q])
          exact ⟨by omega, fun _ => by omega⟩
        · exact h5 u (by omega) hgu
def lgood (W : Nat → Nat) (B pl : Nat) (need : Int) (s : Nat) : Bool := decide (nd s pl = 0) && decide (need ≤ (wS W (Nat.testBit s) B : Int))
theorem nd_0 (s pl : Nat) : nd s pl = 0 ↔ ∀ i, s.testBit i = true → pl.testBit i = true := by
  constructor
  · intro h i hi
    have := nd_bit s pl i
    rw [h, Nat.zero_testBit, hi] at this
    simpa using this.symm
  · intro h
    apply Nat.eq_of_testBit_eq
    intro i
    rw [nd_bit, Nat.zero_testBit]
    cases e : s.testBit i with
    | false => rfl
    | true => rw [h i e]; rfl
def lcnt (B s : Nat) : Nat := cnt (Nat.testBit s) B
theorem left_some {W : Nat → Nat} {B pl n : Nat} {need : Int} (hB : B ≤ 12) (hpl : pl < 2 ^ B) (h1 : need ≤ (mo W B n (Nat.testBit pl) : Int)) (h2 : ∀ k, k < n → (mo W B k (Nat.testBit pl) : Int) < need) : mbest (lgood W B pl need) (lcnt B) (2 ^ B) = some (lst W B pl 12 n need) ∧ lcnt B (lst W B pl 12 n need) = n := by
  have hbit : ∀ i, pl.testBit i = true → i < B := by
    intro i hi
    rcases Nat.lt_or_ge i B with q | q
    · exact q
    · rw [Nat.testBit_lt_two_pow (Nat.lt_of_lt_of_le hpl (Nat.pow_le_pow_right (by decide) q))] at hi; cases hi
  have e12 : pl % 2 ^ 12 = pl := Nat.mod_eq_of_lt (Nat.lt_of_lt_of_le hpl (Nat.pow_le_pow_right (by decide) hB))
  obtain ⟨i1, i2, i3, i4, i5⟩ := lst_ok (W := W) hbit 12 n need (by rw [e12]; exact mo_ok.mp h1)
  generalize lst W B pl 12 n need = s at i1 i2 i3 i4 i5 ⊢
  have hs : s < 2 ^ B := by
    apply Nat.lt_pow_two_of_testBit
    intro i hi
    cases e : s.testBit i with
    | false => rfl
    | true => have := hbit i (i2 i e); omega
  have hg : lgood W B pl need s = true := by
    unfold lgood
    rw [Bool.and_eq_true, decide_eq_true_eq, decide_eq_true_eq]
    exact ⟨(nd_0 s pl).mpr i2, i4⟩
  have few : ∀ t, lgood W B pl need t = true → n ≤ lcnt B t := by
    intro t ht
    unfold lgood at ht
    rw [Bool.and_eq_true, decide_eq_true_eq, decide_eq_true_eq] at ht
    rcases Nat.lt_or_ge (lcnt B t) n with q | q
    · have := h2 _ q
      have := mo_ok.mpr (⟨Nat.testBit t, fun i _ hi => (nd_0 t pl).mp ht.1 i hi, Nat.le_refl _, ht.2⟩ : okS W B (Nat.testBit pl) (lcnt B t) need)
      omega
    · exact q
  have hn : lcnt B s = n := Nat.le_antisymm i3 (few s hg)
  refine ⟨?_, hn⟩
  obtain ⟨m1, m2⟩ := mb_ok (lgood W B pl need) (lcnt B) (2 ^ B)
  cases hm : mbest (lgood W B pl need) (lcnt B) (2 ^ B) with
  | none => rw [m1 hm s hs] at hg; cases hg
  | some t =>
    obtain ⟨m3, m4, m5⟩ := m2 t hm
    have a1 := m5 s hs hg
    have a2 := few t m4
    have hgt := m4
    unfold lgood at hgt
    rw [Bool.and_eq_true, decide_eq_true_eq, decide_eq_true_eq] at hgt
    have a3 := i5 t (Nat.lt_of_lt_of_le m3 (Nat.pow_le_pow_right (by decide) hB)) ((nd_0 t pl).mp hgt.1) (by unfold lcnt at a1 hn; omega) hgt.2
    have a4 := a1.2 (by omega)
    congr 1
    omega
theorem left_none {W : Nat → Nat} {B pl : Nat} {need : Int} (h : ∀ k, k ≤ lcnt B pl → (mo W B k (Nat.testBit pl) : Int) < need) : mbest (lgood W B pl need) (lcnt B) (2 ^ B) = none := by
  obtain ⟨m1, m2⟩ := mb_ok (lgood W B pl need) (lcnt B) (2 ^ B)
  cases hm : mbest (lgood W B pl need) (lcnt B) (2 ^ B) with
  | none => rfl
  | some t =>
    exfalso
    obtain ⟨m3, m4, m5⟩ := m2 t hm
    unfold lgood at m4
    rw [Bool.and_eq_true, decide_eq_true_eq, decide_eq_true_eq] at m4
    have hsub := (nd_0 t pl).mp m4.1
    have hle : ∀ B, cnt (Nat.testBit t) B ≤ cnt (Nat.testBit pl) B := by
      intro B
      induction B with
      | zero => exact Nat.le_refl _
      | succ B ih =>
        unfold cnt
        cases e : t.testBit B with
        | false => simp; omega
        | true => rw [hsub B e]; simp; exact ih
    have := h (lcnt B t) (hle B)
    have := mo_ok.mpr (⟨Nat.testBit t, fun i _ hi => hsub i hi, Nat.le_refl _, m4.2⟩ : okS W B (Nat.testBit pl) (lcnt B t) need)
    omega
