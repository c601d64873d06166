/-! the best order: counting, and numbers by their digits -/
def cn (P : Nat → Bool) : Nat → Nat
  | 0 => 0
  | i + 1 => cn P i + (if P i = true then 1 else 0)
theorem cn_cg {P Q : Nat → Bool} : ∀ n, (∀ m, m < n → P m = Q m) → cn P n = cn Q n := by
  intro n
  induction n with
  | zero => intro _; rfl
  | succ n ih => intro h; rw [cn, cn, ih (fun m hm => h m (by omega)), h n (by omega)]
theorem cn_upd {P Q : Nat → Bool} {g : Nat} : ∀ n, g < n → (∀ m, m < n → m ≠ g → Q m = P m) → P g = false → cn Q n = cn P n + (if Q g = true then 1 else 0) := by
  intro n
  induction n with
  | zero => intro h; omega
  | succ n ih =>
    intro h h1 h2
    rw [cn, cn]
    by_cases c : g = n
    · subst c
      rw [cn_cg g (fun m hm => h1 m (by omega) (by omega)), h2]
      simp
    · rw [ih (by omega) (fun m hm => h1 m (by omega)) h2, h1 n (by omega) (by omega)]
      omega
theorem cn_le {P : Nat → Bool} : ∀ n, cn P n ≤ n := by
  intro n
  induction n with
  | zero => exact Nat.le_refl _
  | succ n ih => rw [cn]; split <;> omega
theorem cn_mono {P Q : Nat → Bool} : ∀ n, (∀ m, m < n → P m = true → Q m = true) → cn P n ≤ cn Q n := by
  intro n
  induction n with
  | zero => intro _; exact Nat.le_refl _
  | succ n ih =>
    intro h
    have a := ih (fun m hm => h m (by omega))
    have b := h n (by omega)
    rw [cn, cn]
    by_cases c : P n = true
    · rw [if_pos c, if_pos (b c)]; omega
    · rw [if_neg c]; omega
theorem cn_strict {P Q : Nat → Bool} : ∀ n, (∀ m, m < n → P m = true → Q m = true) → (∃ m, m < n ∧ P m = false ∧ Q m = true) → cn P n < cn Q n := by
  intro n
  induction n with
  | zero => intro _ ⟨m, h, _⟩; omega
  | succ n ih =>
    intro h ⟨m, h1, h2, h3⟩
    have a := cn_mono n (fun m hm => h m (by omega))
    have b := h n (by omega)
    rw [cn, cn]
    by_cases c : m = n
    · subst c; rw [h2, h3]; simp; omega
    · have a2 := ih (fun m hm => h m (by omega)) ⟨m, by omega, h2, h3⟩
      by_cases c : P n = true
      · rw [if_pos c, if_pos (b c)]; omega
      · rw [if_neg c]; omega
/-- some places changed, one by one -/
theorem cn_many {P Q : Nat → Bool} {n : Nat} (od : Nat → Nat) : ∀ K, (∀ k, k < K → od k < n ∧ P (od k) = false) → (∀ k j, k < K → j < K → od k = od j → k = j) → (∀ m, m < n → (∀ k, k < K → od k ≠ m) → Q m = P m) → cn Q n = cn P n + cn (fun k => Q (od k)) K := by
  intro K
  induction K generalizing Q with
  | zero => intro _ _ h; rw [cn, Nat.add_zero]; exact cn_cg n (fun m hm => h m hm (fun k hk => by omega))
  | succ K ih =>
    intro h1 h2 h3
    -- Q without its last place
    have e := ih (Q := fun m => if m = od K then P m else Q m) (fun k hk => h1 k (by omega)) (fun k j a b => h2 k j (by omega) (by omega)) (fun m hm hk => by
      by_cases c : m = od K
      · rw [if_pos c]
      · rw [if_neg c]
        exact h3 m hm (fun k hk2 => by
          by_cases d : k = K
          · subst d; exact fun z => c z.symm
          · exact hk k (by omega)))
    have e2 := cn_upd (P := fun m => if m = od K then P m else Q m) (Q := Q) (g := od K) n (h1 K (by omega)).1 (fun m hm hne => by rw [if_neg hne]) (by rw [if_pos rfl]; exact (h1 K (by omega)).2)
    rw [e2, e, cn, cn_cg (P := fun k => if od k = od K then P (od k) else Q (od k)) (Q := fun k => Q (od k)) K (fun k hk => by rw [if_neg (fun z => by have := h2 k K (by omega) (by omega) z; omega)])]
    omega
/-- digits -/
def dn (n a j : Nat) : Nat := a / n ^ j % n
theorem dn_next (n a j : Nat) : dn n (a / n) j = dn n a (j + 1) := by
  unfold dn
  rw [Nat.div_div_eq_div_mul, Nat.pow_succ']
theorem dn_le {n : Nat} (hn : 0 < n) : ∀ (K a b : Nat), a < n ^ K → b < n ^ K → (∀ j, j < K → dn n a j ≤ dn n b j) → a ≤ b := by
  intro K
  induction K with
  | zero => intro a b h1 h2 _; rw [Nat.pow_zero] at h1 h2; omega
  | succ K ih =>
    intro a b h1 h2 h
    have q := ih (a / n) (b / n) (Nat.div_lt_of_lt_mul (by rw [← Nat.pow_succ']; exact h1)) (Nat.div_lt_of_lt_mul (by rw [← Nat.pow_succ']; exact h2)) (fun j hj => by rw [dn_next, dn_next]; exact h (j + 1) (by omega))
    have r := h 0 (by omega)
    unfold dn at r
    rw [Nat.pow_zero, Nat.div_one, Nat.div_one] at r
    have e1 := Nat.div_add_mod a n
    have e2 := Nat.div_add_mod b n
    have := Nat.mul_le_mul_left n q
    omega
def dk (n : Nat) (d : Nat → Nat) : Nat → Nat
  | 0 => 0
  | K + 1 => d K * n ^ K + dk n d K
theorem dk_ok {n : Nat} {d : Nat → Nat} (hn : 0 < n) : ∀ K, (∀ j, j < K → d j < n) → dk n d K < n ^ K ∧ ∀ j, j < K → dn n (dk n d K) j = d j := by
  intro K
  induction K with
  | zero => intro _; exact ⟨by rw [dk, Nat.pow_zero]; omega, fun j h => by omega⟩
  | succ K ih =>
    intro h
    obtain ⟨h1, h2⟩ := ih (fun j hj => h j (by omega))
    have hd := h K (by omega)
    have hp : 0 < n ^ K := Nat.pow_pos hn
    refine ⟨?_, fun j hj => ?_⟩
    · rw [dk, Nat.pow_succ']
      have : (d K + 1) * n ^ K ≤ n * n ^ K := Nat.mul_le_mul_right _ hd
      rw [Nat.add_mul, Nat.one_mul] at this
      omega
    · unfold dn
      by_cases c : j = K
      · subst c
        rw [dk, Nat.mul_comm, Nat.mul_add_div hp, Nat.div_eq_of_lt h1, Nat.add_zero, Nat.mod_eq_of_lt hd]
      · have q := h2 j (by omega)
        unfold dn at q
        have hpj : 0 < n ^ j := Nat.pow_pos hn
        rw [dk, show d K * n ^ K = n ^ j * (n * (d K * n ^ (K - 1 - j))) by
          rw [show n ^ K = n ^ j * (n * n ^ (K - 1 - j)) by rw [← Nat.pow_succ', ← Nat.pow_add]; congr 1; omega]
          rw [Nat.mul_left_comm, Nat.mul_left_comm (d K)], Nat.mul_add_div hpj, Nat.mul_add_mod]
        exact q
