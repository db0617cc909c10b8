/-! the text: ITEMS. A FAULT is its place, on the left -/
def pNum (n : Nat) (t : Nat → Nat) (lo hi p : Nat) : Nat ⊕ (Nat × Nat) := if tk n t p = 256 ∧ lo ≤ tv n t p ∧ tv n t p ≤ hi then .inr (tv n t p, tn n t p) else .inl (tS n t p)
def pEnd (n : Nat) (t : Nat → Nat) (p : Nat) : Nat ⊕ Nat := if tk n t p = 59 then .inr (tn n t p) else .inl (tS n t p)
def pNts (n : Nat) (t : Nat → Nat) : Nat → Nat → Nat → Nat → Nat ⊕ (Nat × Nat)
  | 0, _, acc, p => .inr (acc, p)
  | k + 1, b, acc, p => if tk n t p = 110 then pNts n t k (b + 1) (acc ||| 2 ^ b) (tn n t p) else if tk n t p = 114 then pNts n t k (b + 1) acc (tn n t p) else .inl (tS n t p)
/-- the place, what is told so far, whether PURSE and FINE are told -/
abbrev jP : Type := Nat × jT × Nat × Nat
def jB {α β : Type} (r : Nat ⊕ α) (f : α → Nat ⊕ β) : Nat ⊕ β := match r with
  | .inl s => .inl s
  | .inr v => f v
def fup (f : Nat → Nat) (i v : Nat) : Nat → Nat := fun j => if j = i then v else f j
def tB (c : jT) (v : Nat) : jT := (cP c, cM c, v, cU c, cF c, cL c, cN c, cG c, cD c)
def tP (c : jT) (l s : Nat) : jT := (cP c + 1, cM c, cB c, cU c, cF c, fup (cL c) (cP c) l, fup (cN c) (cP c) s, cG c, cD c)
def tM (c : jT) (g d : Nat) : jT := (cP c, cM c + 1, cB c, cU c, cF c, cL c, cN c, fup (cG c) (cM c) g, fup (cD c) (cM c) d)
def tU (c : jT) (v : Nat) : jT := (cP c, cM c, cB c, v, cF c, cL c, cN c, cG c, cD c)
def tF (c : jT) (v : Nat) : jT := (cP c, cM c, cB c, cU c, v, cL c, cN c, cG c, cD c)
/-- an ITEM behind its first letter, without its end -/
def pB (n : Nat) (t : Nat → Nat) (p : Nat) (c : jT) (u f : Nat) : Nat ⊕ jP := jB (pNum n t 1 12 p) fun v => .inr (v.2, tB c v.1, u, f)
def pP (n : Nat) (t : Nat → Nat) (p : Nat) (c : jT) (u f : Nat) : Nat ⊕ jP := jB (pNum n t 1 9 p) fun v => jB (pNts n t (cB c) 0 0 v.2) fun s => .inr (s.2, tP c v.1 s.1, u, f)
def pM (n : Nat) (t : Nat → Nat) (p : Nat) (c : jT) (u f : Nat) : Nat ⊕ jP := jB (pNum n t 1 12 p) fun v => jB (pNum n t 0 99 v.2) fun s => .inr (s.2, tM c v.1 s.1, u, f)
def pU (n : Nat) (t : Nat → Nat) (p : Nat) (c : jT) (_ f : Nat) : Nat ⊕ jP := jB (pNum n t 1 60 p) fun v => .inr (v.2, tU c v.1, 1, f)
def pF (n : Nat) (t : Nat → Nat) (p : Nat) (c : jT) (u _ : Nat) : Nat ⊕ jP := jB (pNum n t 0 30 p) fun v => .inr (v.2, tF c v.1, u, 1)
def pFin (n : Nat) (t : Nat → Nat) (s : jP) : Nat ⊕ jP := jB (pEnd n t s.1) fun p => .inr (p, s.2)
def pBegin (i : Nat) (k : Nat) (c : jT) (u f : Nat) : Bool := decide ((k = 98 ∧ i = 0) ∨ (k = 112 ∧ cP c < 5) ∨ (k = 109 ∧ cM c < 5) ∨ (k = 119 ∧ u = 0) ∨ (k = 102 ∧ f = 0))
def pWhat (n : Nat) (t : Nat → Nat) (k p : Nat) (c : jT) (u f : Nat) : Nat ⊕ jP := if k = 98 then pB n t p c u f else if k = 112 then pP n t p c u f else if k = 109 then pM n t p c u f else if k = 119 then pU n t p c u f else pF n t p c u f
def pItem (n : Nat) (t : Nat → Nat) (i p : Nat) (c : jT) (u f : Nat) : Nat ⊕ jP := if pBegin i (tk n t p) c u f = true then jB (pWhat n t (tk n t p) (tn n t p) c u f) (pFin n t) else .inl (tS n t p)
def pAll (n : Nat) (t : Nat → Nat) : Nat → Nat → jP → Nat ⊕ (Nat × jT)
  | 0, i, s => .inr (i, s.2.1)
  | k + 1, i, s => if tk n t s.1 = 257 then .inr (i, s.2.1) else jB (pItem n t i s.1 s.2.1 s.2.2.1 s.2.2.2) (pAll n t k (i + 1))
def c0 : jT := (0, 0, 8, 12, 5, fun _ => 0, fun _ => 0, fun _ => 1, fun _ => 0)
def pScore (n : Nat) (t : Nat → Nat) : Nat ⊕ (Nat × jT) := pAll n t (n + 1) 0 (0, c0, 0, 0)
theorem jB_r {α β : Type} {r : Nat ⊕ α} {f : α → Nat ⊕ β} {b : β} (h : jB r f = .inr b) : ∃ a, r = .inr a ∧ f a = .inr b := by
  cases r with
  | inl s => cases h
  | inr a => exact ⟨a, rfl, h⟩
theorem pNum_r {n : Nat} {t : Nat → Nat} {lo hi p : Nat} {v : Nat × Nat} (h : pNum n t lo hi p = .inr v) : lo ≤ v.1 ∧ v.1 ≤ hi ∧ tk n t p = 256 ∧ v = (tv n t p, tn n t p) := by
  unfold pNum at h
  split at h
  · next q => cases h; exact ⟨q.2.1, q.2.2, q.1, rfl⟩
  · cases h
theorem pNum_le {n : Nat} {t : Nat → Nat} {lo hi p : Nat} {v : Nat × Nat} (hp : p ≤ n) (h : pNum n t lo hi p = .inr v) : p ≤ v.2 ∧ v.2 ≤ n := by
  obtain ⟨-, -, -, rfl⟩ := pNum_r h
  have := tn_le t hp
  exact ⟨this.1, this.2.1⟩
theorem pEnd_le {n : Nat} {t : Nat → Nat} {p v : Nat} (hp : p ≤ n) (h : pEnd n t p = .inr v) : p ≤ v ∧ v ≤ n := by
  have := tn_le t hp
  unfold pEnd at h
  split at h
  · cases h; exact ⟨this.1, this.2.1⟩
  · cases h
theorem pNts_le {n : Nat} {t : Nat → Nat} : ∀ {k b acc p : Nat} {v : Nat × Nat}, p ≤ n → pNts n t k b acc p = .inr v → p ≤ v.2 ∧ v.2 ≤ n
  | 0, b, acc, p, v, hp, h => by unfold pNts at h; cases h; exact ⟨Nat.le_refl _, hp⟩
  | k + 1, b, acc, p, v, hp, h => by
    have := tn_le t hp
    unfold pNts at h
    split at h
    · have := pNts_le this.2.1 h; omega
    · split at h
      · have := pNts_le this.2.1 h; omega
      · cases h
theorem pNts_lt {n : Nat} {t : Nat → Nat} : ∀ {k b acc p : Nat} {v : Nat × Nat}, acc < 2 ^ b → pNts n t k b acc p = .inr v → v.1 < 2 ^ (b + k)
  | 0, b, acc, p, v, ha, h => by unfold pNts at h; cases h; exact ha
  | k + 1, b, acc, p, v, ha, h => by
    have h1 : 2 ^ b < 2 ^ (b + 1) := Nat.pow_lt_pow_right (by decide) (Nat.lt_succ_self b)
    unfold pNts at h
    split at h
    · have := pNts_lt (Nat.or_lt_two_pow (Nat.lt_trans ha h1) h1) h
      rw [show b + (k + 1) = b + 1 + k by omega]; exact this
    · split at h
      · have := pNts_lt (Nat.lt_trans ha h1) h
        rw [show b + (k + 1) = b + 1 + k by omega]; exact this
      · cases h
/-- what holds of all that is told so far; before the first ITEM nothing is -/
def pOk (i : Nat) (c : jT) : Prop := cW c ∧ (i = 0 → c = c0)
theorem c0_W : cW c0 := by
  refine ⟨by decide, by decide, by decide, by decide, by decide, by decide, by decide, fun p => Nat.zero_le 9, fun p => by show 0 < 2 ^ 8; decide, fun m => by show 1 ≤ 1 ∧ 1 ≤ 12; decide, fun m => Nat.zero_le _⟩
theorem fup_all {P : Nat → Prop} {f : Nat → Nat} {i v : Nat} (h : ∀ j, P (f j)) (hv : P v) (j : Nat) : P (fup f i v j) := by
  unfold fup
  split
  · exact hv
  · exact h j
theorem pWhat_ok {n : Nat} {t : Nat → Nat} {i p : Nat} {c : jT} {u f : Nat} {s : jP} (ht : ∀ j, t j ≤ 255) (hp : p ≤ n) (hc : pOk i c) (hb : pBegin i (tk n t p) c u f = true) (h : pWhat n t (tk n t p) (tn n t p) c u f = .inr s) : cW s.2.1 ∧ tn n t p ≤ s.1 ∧ s.1 ≤ n := by
  obtain ⟨⟨c1, c2, c3, c4, c5, c6, c7, c8, c9, c10, c11⟩, hi⟩ := hc
  have hn := (tn_le t hp).2.1
  unfold pBegin at hb
  rw [decide_eq_true_eq] at hb
  unfold pWhat at h
  split at h
  · next e =>
    have h0 := hi (by omega)
    subst h0
    obtain ⟨v, h1, h2⟩ := jB_r h
    cases h2
    have h3 := pNum_r h1
    have h4 := pNum_le hn h1
    refine ⟨⟨c1, c2, h3.1, h3.2.1, c5, c6, c7, c8, fun p => ?_, c10, c11⟩, h4.1, h4.2⟩
    exact Nat.two_pow_pos _
  · split at h
    · next e =>
      obtain ⟨v, h1, h2⟩ := jB_r h
      obtain ⟨s', h3, h4⟩ := jB_r h2
      cases h4
      have h5 := pNum_r h1
      have h6 := pNum_le hn h1
      have h7 := pNts_le h6.2 h3
      have h8 := pNts_lt (by decide) h3
      rw [Nat.zero_add] at h8
      refine ⟨⟨(by show cP c + 1 ≤ 5; omega), c2, c3, c4, c5, c6, c7, fup_all (P := fun l => l ≤ 9) c8 h5.2.1, fup_all (P := fun l => l < 2 ^ cB c) c9 h8, c10, c11⟩, by show tn n t p ≤ s'.2; omega, h7.2⟩
    · split at h
      · next e =>
        obtain ⟨v, h1, h2⟩ := jB_r h
        obtain ⟨s', h3, h4⟩ := jB_r h2
        cases h4
        have h5 := pNum_r h1
        have h6 := pNum_le hn h1
        have h7 := pNum_r h3
        have h8 := pNum_le h6.2 h3
        refine ⟨⟨c1, (by show cM c + 1 ≤ 5; omega), c3, c4, c5, c6, c7, c8, c9, fup_all (P := fun l => 1 ≤ l ∧ l ≤ 12) c10 ⟨h5.1, h5.2.1⟩, fup_all (P := fun l => l ≤ 99) c11 h7.2.1⟩, by show tn n t p ≤ s'.2; omega, h8.2⟩
      · split at h
        · obtain ⟨v, h1, h2⟩ := jB_r h
          cases h2
          have h3 := pNum_r h1
          have h4 := pNum_le hn h1
          exact ⟨⟨c1, c2, c3, c4, h3.1, h3.2.1, c7, c8, c9, c10, c11⟩, h4.1, h4.2⟩
        · obtain ⟨v, h1, h2⟩ := jB_r h
          cases h2
          have h3 := pNum_r h1
          have h4 := pNum_le hn h1
          exact ⟨⟨c1, c2, c3, c4, c5, c6, h3.2.1, c8, c9, c10, c11⟩, h4.1, h4.2⟩
theorem pBegin_k {i k : Nat} {c : jT} {u f : Nat} (h : pBegin i k c u f = true) : k = 98 ∨ k = 112 ∨ k = 109 ∨ k = 119 ∨ k = 102 := by
  unfold pBegin at h
  rw [decide_eq_true_eq] at h
  omega
theorem pItem_ok {n : Nat} {t : Nat → Nat} {i p : Nat} {c : jT} {u f : Nat} {s : jP} (ht : ∀ j, t j ≤ 255) (hp : p ≤ n) (hc : pOk i c) (h : pItem n t i p c u f = .inr s) : pOk (i + 1) s.2.1 ∧ p + 1 ≤ s.1 ∧ s.1 ≤ n := by
  unfold pItem at h
  split at h
  · next hb =>
    obtain ⟨s', h1, h2⟩ := jB_r h
    obtain ⟨v, h3, h4⟩ := jB_r h2
    cases h4
    obtain ⟨k1, k2, k3⟩ := pWhat_ok ht hp hc hb h1
    have h5 := pEnd_le k3 h3
    have h6 := (tn_le t hp).2.2 (by have := pBegin_k hb; omega)
    exact ⟨⟨k1, fun e => by omega⟩, by show p + 1 ≤ v; omega, h5.2⟩
  · cases h
theorem pAll_ok {n : Nat} {t : Nat → Nat} (ht : ∀ j, t j ≤ 255) : ∀ {k i : Nat} {s : jP} {r : Nat × jT}, s.1 ≤ n → pOk i s.2.1 → i ≤ s.1 → pAll n t k i s = .inr r → cW r.2 ∧ r.1 ≤ n
  | 0, i, s, r, hp, hc, hi, h => by unfold pAll at h; cases h; exact ⟨hc.1, Nat.le_trans hi hp⟩
  | k + 1, i, s, r, hp, hc, hi, h => by
    unfold pAll at h
    split at h
    · cases h; exact ⟨hc.1, Nat.le_trans hi hp⟩
    · obtain ⟨s', h1, h2⟩ := jB_r h
      obtain ⟨k1, k2, k3⟩ := pItem_ok ht hp hc h1
      exact pAll_ok ht k3 k1 (by omega) h2
theorem pScore_ok {n : Nat} {t : Nat → Nat} (ht : ∀ j, t j ≤ 255) {r : Nat × jT} (h : pScore n t = .inr r) : cW r.2 ∧ r.1 ≤ n := pAll_ok ht (Nat.zero_le _) ⟨c0_W, fun _ => rfl⟩ (Nat.zero_le _) h
