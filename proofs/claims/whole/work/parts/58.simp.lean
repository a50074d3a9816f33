section SIMPT
variable {α β τ σ ρ : Type}
theorem eb_bdR (v : α) (f : α → Option β) : ea_bd v f = f v := rfl
theorem eb_clR (r : Int32) (m : ea_M) (f : Int32 → ea_M → Option β) : ea_cl (some (r, m)) f = f r m := rfl
theorem eb_cx0 (r : Int32) (m : ea_M) (f : Int32 → ea_M → Option β) (g : Nat → ea_M → Option β) : ea_cx (some (0, r, m)) f g = f r m := rfl
theorem eb_cx1 (r : Int32) (m : ea_M) (f : Int32 → ea_M → Option β) (g : Nat → ea_M → Option β) : ea_cx (some (1, r, m)) f g = g 1 m := rfl
theorem eb_cx2 (r : Int32) (m : ea_M) (f : Int32 → ea_M → Option β) (g : Nat → ea_M → Option β) : ea_cx (some (2, r, m)) f g = g 2 m := rfl
theorem eb_cx3 (r : Int32) (m : ea_M) (f : Int32 → ea_M → Option β) (g : Nat → ea_M → Option β) : ea_cx (some (3, r, m)) f g = g 3 m := rfl
theorem eb_cx4 (r : Int32) (m : ea_M) (f : Int32 → ea_M → Option β) (g : Nat → ea_M → Option β) : ea_cx (some (4, r, m)) f g = g 4 m := rfl
theorem eb_cx5 (r : Int32) (m : ea_M) (f : Int32 → ea_M → Option β) (g : Nat → ea_M → Option β) : ea_cx (some (5, r, m)) f g = g 5 m := rfl
theorem eb_obR (a : α) (f : α → Option β) : (some a).bind f = f a := rfl
theorem eb_obN (f : α → Option β) : (none : Option α).bind f = none := rfl
theorem eb_gN {j n : Nat} {x : Option τ} (h : j < n) (hn : n < 2147483648) : ea_g (nI j) n x = x := if_neg (nI_in h hn)
theorem eb_gz0 (x : Option τ) : ea_gz 0 x = x := rfl
theorem eb_gz1 (x : Option τ) : ea_gz 1 x = x := rfl
theorem eb_lit (n : Nat) : (OfNat.ofNat n : Int32) = nI (OfNat.ofNat n) := rfl
theorem eb_clamp {n : Nat} (h : n < 2147483648) : (nI n).toNatClampNeg = n := nI_clamp h
theorem eb_leN {a b : Nat} (ha : a < 2147483648) (hb : b < 2147483648) : (nI a ≤ nI b) = (a ≤ b) := propext (nI_leI ha hb)
theorem eb_ltN {a b : Nat} (ha : a < 2147483648) (hb : b < 2147483648) : (nI a < nI b) = (a < b) := propext (nI_ltI ha hb)
theorem eb_eqN {a b : Nat} (ha : a < 2147483648) (hb : b < 2147483648) : (nI a = nI b) = (a = b) := propext (nI_eq ha hb)
/-- a sum over the first n -/
def eb_S (f : Nat → Int32) : Nat → Int32
  | 0 => 0
  | n + 1 => eb_S f n + f n
/-- a fold over the first n -/
def eb_F (f : Nat → σ → σ) (s : σ) : Nat → σ
  | 0 => s
  | n + 1 => f n (eb_F f s n)
theorem eb_S_cg {f g : Nat → Int32} : ∀ {n : Nat}, (∀ i, i < n → f i = g i) → eb_S f n = eb_S g n
  | 0, _ => rfl
  | n + 1, h => by
    show eb_S f n + f n = eb_S g n + g n
    rw [eb_S_cg (fun i hi => h i (by omega)), h n (by omega)]
theorem eb_F_cg {f g : Nat → σ → σ} {s : σ} : ∀ {n : Nat}, (∀ i t, i < n → f i t = g i t) → eb_F f s n = eb_F g s n
  | 0, _ => rfl
  | n + 1, h => by
    show f n (eb_F f s n) = g n (eb_F g s n)
    rw [eb_F_cg (fun i t hi => h i t (by omega)), h n _ (by omega)]
/-- a counting loop that folds -/
theorem eb_loopF {step : σ → Option (σ ⊕ ρ)} (N : Nat) (S : Nat → σ) (r : ρ) {f : Nat} {s : σ} (h0 : s = S 0) (hs : ∀ i, i < N → step (S i) = some (.inl (S (i + 1)))) (he : step (S N) = some (.inr r)) (hf : N < f) : ea_loop step f s = some r := by
  subst h0
  exact eb_seq N S r hs he hf
/-- an index: what a wrong one is, and a right one -/
theorem eb_ix {p x : Int32} {n : Nat} (hx : x = nI n) (hn : n < 2 ^ 31) : (¬ (0 ≤ p ∧ p < x)) ∨ ∃ j, j < n ∧ p = nI j := by
  subst hx
  rcases pk_ix p hn with h | h | h
  · exact Or.inl fun z => absurd h (Int32.not_lt.mpr z.1)
  · exact Or.inl fun z => absurd z.2 (Int32.not_lt.mpr h)
  · exact Or.inr h
theorem eb_ixT {j n : Nat} (h : j < n) (hn : n < 2 ^ 31) : 0 ≤ nI j ∧ nI j < nI n := ⟨nI_le (Nat.zero_le _) (by omega), nI_lt h hn⟩
end SIMPT
