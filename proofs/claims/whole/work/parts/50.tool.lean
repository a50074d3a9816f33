section TOOL
/-- x comes to something, and that is Q -/
def eb_W {τ : Type} (x : Option τ) (Q : τ → Prop) : Prop := ∃ t, x = some t ∧ Q t
variable {α β τ σ ρ : Type}
theorem eb_some {t : τ} {Q : τ → Prop} (h : Q t) : eb_W (some t) Q := ⟨t, rfl, h⟩
theorem eb_of {x : Option τ} {t : τ} {Q : τ → Prop} (e : x = some t) (h : Q t) : eb_W x Q := ⟨t, e, h⟩
theorem eb_mono {x : Option τ} {P Q : τ → Prop} (h : eb_W x P) (hi : ∀ t, P t → Q t) : eb_W x Q := by
  obtain ⟨t, e, p⟩ := h
  exact ⟨t, e, hi t p⟩
theorem eb_bd {v : α} {f : α → Option β} {Q : β → Prop} (h : eb_W (f v) Q) : eb_W (ea_bd v f) Q := h
theorem eb_bdE {v : α} {f : α → Option β} {Q : β → Prop} (h : ∀ a, a = v → eb_W (f a) Q) : eb_W (ea_bd v f) Q := h v rfl
theorem eb_bdV {v w : α} {f : α → Option β} {Q : β → Prop} (e : v = w) (h : eb_W (f w) Q) : eb_W (ea_bd v f) Q := by
  subst e
  exact h
theorem eb_bind {y : Option α} {f : α → Option β} {P : α → Prop} {Q : β → Prop} (hy : eb_W y P) (h : ∀ a, P a → eb_W (f a) Q) : eb_W (y.bind f) Q := by
  obtain ⟨a, e, p⟩ := hy
  subst e
  exact h a p
theorem eb_cl {y : Option (Int32 × ea_M)} {f : Int32 → ea_M → Option β} {P : Int32 × ea_M → Prop} {Q : β → Prop} (hy : eb_W y P) (h : ∀ r m, P (r, m) → eb_W (f r m) Q) : eb_W (ea_cl y f) Q :=
  eb_bind hy fun a p => h a.1 a.2 p
theorem eb_cx {y : Option ea_O} {f : Int32 → ea_M → Option β} {g : Nat → ea_M → Option β} {P : ea_O → Prop} {Q : β → Prop} (hy : eb_W y P) (h : ∀ r m, P (0, r, m) → eb_W (f r m) Q) (hg : ∀ k r m, k ≠ 0 → P (k, r, m) → eb_W (g k m) Q) : eb_W (ea_cx y f g) Q := by
  refine eb_bind hy fun a p => ?_
  obtain ⟨k, r, m⟩ := a
  show eb_W (if k = 0 then f r m else g k m) Q
  by_cases hk : k = 0
  · subst hk
    rw [if_pos rfl]
    exact h r m p
  · rw [if_neg hk]
    exact hg k r m hk p
theorem eb_gI {i : Int32} {n : Nat} {x : Option τ} {Q : τ → Prop} (hi : vp_in i n) (h : eb_W x Q) : eb_W (ea_g i n x) Q := by
  unfold ea_g
  rw [if_neg hi]
  exact h
theorem eb_g {i : Int32} {n : Nat} {x : Option τ} {Q : τ → Prop} (j : Nat) (hj : j < n) (h : eb_W x Q) (hi : i = nI j := by rfl) (hn : n < 2 ^ 31 := by decide) : eb_W (ea_g i n x) Q :=
  eb_gI (pk_in j n hj hi hn) h
theorem eb_ite {c : Prop} [Decidable c] {x y : Option τ} {Q : τ → Prop} (ht : c → eb_W x Q) (he : ¬ c → eb_W y Q) : eb_W (if c then x else y) Q := by
  by_cases h : c
  · rw [if_pos h]
    exact ht h
  · rw [if_neg h]
    exact he h
theorem eb_if {c : Prop} [Decidable c] {x y : Option τ} {Q : τ → Prop} (h : c) (ht : eb_W x Q) : eb_W (if c then x else y) Q := by
  rw [if_pos h]
  exact ht
theorem eb_else {c : Prop} [Decidable c] {x y : Option τ} {Q : τ → Prop} (h : ¬ c) (ht : eb_W y Q) : eb_W (if c then x else y) Q := by
  rw [if_neg h]
  exact ht
/-- a loop by a measure: each step goes on, with less to do, or comes out -/
theorem eb_while {step : σ → Option (σ ⊕ ρ)} {Q : ρ → Prop} (I : Nat → σ → Prop)
    (hs : ∀ n s, I n s → eb_W (step s) (fun z => match z with | .inl s' => ∃ n', n' < n ∧ I n' s' | .inr r => Q r)) :
    ∀ (f n : Nat) (s : σ), n < f → I n s → eb_W (ea_loop step f s) Q := by
  intro f
  induction f with
  | zero => intro n s h; exact absurd h (Nat.not_lt_zero _)
  | succ f ih =>
    intro n s hn hI
    obtain ⟨z, e, hz⟩ := hs n s hI
    cases z with
    | inl s' =>
      obtain ⟨n', hn', hI'⟩ := hz
      have h1 : ea_loop step (f + 1) s = ea_loop step f s' := by show (match step s with | none => none | some (.inl s') => ea_loop step f s' | some (.inr r) => some r) = _; rw [e]
      rw [h1]
      exact ih n' s' (by omega) hI'
    | inr r =>
      have h1 : ea_loop step (f + 1) s = some r := by show (match step s with | none => none | some (.inl s') => ea_loop step f s' | some (.inr r) => some r) = _; rw [e]
      rw [h1]
      exact ⟨r, rfl, hz⟩
/-- a counting loop: I i s is what holds before turn i; a turn may come out early -/
theorem eb_for {step : σ → Option (σ ⊕ ρ)} {Q : ρ → Prop} (N : Nat) (I : Nat → σ → Prop)
    (hs : ∀ i s, i < N → I i s → eb_W (step s) (fun z => match z with | .inl s' => I (i + 1) s' | .inr r => Q r))
    (he : ∀ s, I N s → eb_W (step s) (fun z => match z with | .inl _ => False | .inr r => Q r))
    {f : Nat} {s : σ} (hf : N < f) (h0 : I 0 s) : eb_W (ea_loop step f s) Q := by
  refine eb_while (fun n s => n ≤ N ∧ I (N - n) s) ?_ f N s hf ⟨Nat.le_refl _, by rw [Nat.sub_self]; exact h0⟩
  intro n s hI
  by_cases hn : n = 0
  · subst hn
    refine eb_mono (he s hI.2) fun z hz => ?_
    cases z with
    | inl s' => exact hz.elim
    | inr r => exact hz
  · refine eb_mono (hs (N - n) s (by omega) hI.2) fun z hz => ?_
    cases z with
    | inl s' => exact ⟨n - 1, by omega, by omega, by rw [show N - (n - 1) = N - n + 1 by omega]; exact hz⟩
    | inr r => exact hz
/-- a counting loop whose states are known one by one -/
theorem eb_seq {step : σ → Option (σ ⊕ ρ)} (N : Nat) (S : Nat → σ) (r : ρ) (hs : ∀ i, i < N → step (S i) = some (.inl (S (i + 1)))) (he : step (S N) = some (.inr r)) {f : Nat} (hf : N < f) : ea_loop step f (S 0) = some r := by
  obtain ⟨t, e, q⟩ := eb_for (Q := fun t => t = r) (step := step) N (fun i s => s = S i) (fun i s hi h => ⟨_, h ▸ hs i hi, rfl⟩) (fun s h => ⟨_, h ▸ he, rfl⟩) hf rfl
  rw [e, q]
theorem eb_up (m : ea_M) (a : Nat) (f : Nat → Int32) : ea_up m a f a = f := if_pos rfl
theorem eb_upN (m : ea_M) {a b : Nat} (f : Nat → Int32) (h : b ≠ a) : ea_up m a f b = m b := if_neg h
theorem eb_st (m : ea_M) (a i : Nat) (v : Int32) : ea_st m a i v a i = v := by
  show (if a = a then upd (m a) i v else m a) i = v
  rw [if_pos rfl]
  exact if_pos rfl
theorem eb_stA (m : ea_M) {a b : Nat} (i : Nat) (v : Int32) (h : b ≠ a) : ea_st m a i v b = m b := if_neg h
theorem eb_stI (m : ea_M) (a : Nat) {i j : Nat} (v : Int32) (h : j ≠ i) : ea_st m a i v a j = m a j := by
  show (if a = a then upd (m a) i v else m a) j = m a j
  rw [if_pos rfl]
  exact if_neg h
theorem eb_sts (m : ea_M) (a i b j : Nat) (v : Int32) : ea_st m a i v b j = if b = a ∧ j = i then v else m b j := by
  by_cases h : b = a
  · subst h
    by_cases hj : j = i
    · subst hj
      rw [eb_st, if_pos ⟨rfl, rfl⟩]
    · rw [eb_stI _ _ _ hj, if_neg (fun z => hj z.2)]
  · rw [eb_stA _ _ _ h, if_neg (fun z => h z.1)]
/-- m' is m but at the rows of A -/
def eb_fr (A : Nat → Prop) (m m' : ea_M) : Prop := ∀ a, ¬ A a → m' a = m a
theorem eb_fr_refl (A : Nat → Prop) (m : ea_M) : eb_fr A m m := fun _ _ => rfl
theorem eb_fr_trans {A : Nat → Prop} {m1 m2 m3 : ea_M} (h1 : eb_fr A m1 m2) (h2 : eb_fr A m2 m3) : eb_fr A m1 m3 := fun a h => (h2 a h).trans (h1 a h)
theorem eb_fr_st {A : Nat → Prop} {m1 m2 : ea_M} (h1 : eb_fr A m1 m2) {a : Nat} (ha : A a) (i : Nat) (v : Int32) : eb_fr A m1 (ea_st m2 a i v) := fun b h => by
  rw [eb_stA m2 i v (fun z : b = a => h (by rw [z]; exact ha))]
  exact h1 b h
theorem eb_fr_up {A : Nat → Prop} {m1 m2 : ea_M} (h1 : eb_fr A m1 m2) {a : Nat} (ha : A a) (f : Nat → Int32) : eb_fr A m1 (ea_up m2 a f) := fun b h => by
  rw [eb_upN m2 f (fun z : b = a => h (by rw [z]; exact ha))]
  exact h1 b h
theorem eb_fr_sub {A B : Nat → Prop} {m m' : ea_M} (h : eb_fr A m m') (hs : ∀ a, A a → B a) : eb_fr B m m' := fun a hb => h a fun z => hb (hs a z)
end TOOL
