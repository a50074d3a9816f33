section SPEC
/-! the world as the reference keeps it: w; what the law and the fall of a feather make of it -/
def eb_b (w : Nat → Int32) : Nat := (w 0).toNatClampNeg
def eb_nc (w : Nat → Int32) : Nat := (w 1).toNatClampNeg
def eb_k (w : Nat → Int32) : Nat := (w 2).toNatClampNeg
def eb_sz (w : Nat → Int32) : Nat := (w 11).toNatClampNeg
/-- the facts of a feather -/
def eb_fact (w : Nat → Int32) (b lv co br : Int32) (f : Nat) : Int32 :=
  if f = 0 then b else if f = 1 then lv else if f = 2 then co else if f = 3 then w (27 + 4 * b.toNatClampNeg) else if f = 4 then w 6 else if f = 5 then br
  else if f = 6 then (if w 8 / 2 < lv then 1 else 0) else (if w 9 ≤ co ∧ co ≤ w 10 then 1 else 0)
def eb_op (s a b : Int32) : Int32 := if s = 9 then a + b else if (if s = 10 then a < b else if s = 11 then b < a else if s = 13 then a + b = 2 else 0 < a + b) then 1 else 0
def eb_e1 (F : Nat → Int32) (s n : Int32) (S : List Int32) : List Int32 :=
  if s ≤ 8 then (if s = 8 then n else F s.toNatClampNeg) :: S
  else if s = 12 then (match S with | a :: T => (1 - a) :: T | [] => [])
  else match S with | b :: a :: T => eb_op s a b :: T | T => T
/-- n steps from step i on -/
def eb_ev (w : Nat → Int32) (F : Nat → Int32) : Nat → Nat → List Int32 → List Int32
  | 0, _, S => S
  | n + 1, i, S => eb_ev w F n (i + 1) (eb_e1 F (w (531 + 2 * i)) (w (532 + 2 * i)) S)
def eb_bg (w : Nat → Int32) (k : Nat) : Nat := (w (485 + 4 * k)).toNatClampNeg
def eb_sp (w : Nat → Int32) (k : Nat) : Nat := (w (486 + 4 * k)).toNatClampNeg
/-- line k holds -/
def eb_hd (w : Nat → Int32) (F : Nat → Int32) (k : Nat) : Prop := eb_ev w F (eb_sp w k - eb_bg w k) (eb_bg w k) [] = [] ∨ eb_ev w F (eb_sp w k - eb_bg w k) (eb_bg w k) [] = [1]
def eb_ln (w : Nat → Int32) : Nat := if w 4 = 1 then (w 482).toNatClampNeg else 0
noncomputable def eb_sum (w : Nat → Int32) (F : Nat → Int32) (kind : Int32) : Int32 :=
  eb_F (fun k s => haveI := Classical.propDecidable (w (483 + 4 * k) = kind ∧ eb_hd w F k); if w (483 + 4 * k) = kind ∧ eb_hd w F k then s + w (484 + 4 * k) else s) 0 (eb_ln w)
noncomputable def eb_sk (w : Nat → Int32) (b lv co br : Int32) : Int32 :=
  ea_max 0 (ea_min 12 (w (26 + 4 * b.toNatClampNeg) + eb_sum w (eb_fact w b lv co br) 0 - eb_sum w (eb_fact w b lv co br) 1))
noncomputable def eb_cr (w : Nat → Int32) (b lv co br : Int32) : Int32 :=
  w (13 + lv.toNatClampNeg) * w (27 + 4 * b.toNatClampNeg) + eb_sum w (eb_fact w b lv co br) 2 - eb_sum w (eb_fact w b lv co br) 3
def eb_dr (w : Nat → Int32) (b g : Int32) : Int32 := if 0 < w (27 + 4 * b.toNatClampNeg) then g else 0
/-- next, off, landed -/
abbrev eb_D : Type := (Nat → Int32) × Int32 × (Nat → Int32)
/-- one place's ways by one gust, in breath k (from 0) -/
def eb_set (k : Nat) (to c n : Int32) (d : eb_D) : eb_D :=
  if c < 0 ∨ 16 ≤ c then (d.1, d.2.1 + n * nI (3 ^ (7 - k)), d.2.2)
  else if to ≤ 0 then (d.1, d.2.1, upd d.2.2 (16 * k + c.toNatClampNeg) (d.2.2 (16 * k + c.toNatClampNeg) + n * nI (3 ^ (7 - k))))
  else (upd d.1 (16 * to.toNatClampNeg + c.toNatClampNeg) (d.1 (16 * to.toNatClampNeg + c.toNatClampNeg) + n), d.2.1, d.2.2)
noncomputable def eb_gu (w : Nat → Int32) (b : Int32) (k p : Nat) (n : Int32) (g : Int32) (d : eb_D) : eb_D :=
  eb_set k (nI (p / 16) - eb_sk w b (nI (p / 16)) (nI (p % 16)) (nI k)) (nI (p % 16) + eb_cr w b (nI (p / 16)) (nI (p % 16)) (nI k) + eb_dr w b g) n d
noncomputable def eb_spr (w : Nat → Int32) (b : Int32) (k : Nat) (here : Nat → Int32) (p : Nat) (d : eb_D) : eb_D :=
  if 0 < here p then eb_gu w b k p (here p) 1 (eb_gu w b k p (here p) 0 (eb_gu w b k p (here p) (-1) d)) else d
/-- the places of breath k -/
noncomputable def eb_pl (w : Nat → Int32) (b : Int32) (k : Nat) (here : Nat → Int32) (d : eb_D) (n : Nat) : eb_D := eb_F (fun i t => eb_spr w b k here (16 + i) t) d n
/-- after k breaths: here, off, landed -/
noncomputable def eb_way (w : Nat → Int32) (b : Int32) : Nat → eb_D
  | 0 => (upd (fun _ => 0) (16 * (w 8).toNatClampNeg + (w 7).toNatClampNeg) 1, 0, fun _ => 0)
  | k + 1 => eb_pl w b k (eb_way w b k).1 (fun _ => 0, (eb_way w b k).2.1, (eb_way w b k).2.2) 192
noncomputable def eb_off (w : Nat → Int32) (b : Int32) : Int32 := (eb_way w b 8).2.1
noncomputable def eb_alo (w : Nat → Int32) (b : Int32) : Int32 := eb_S (fun i => (eb_way w b 8).1 (16 + i)) 192
noncomputable def eb_lan (w : Nat → Int32) (b : Int32) (i : Nat) : Int32 := (eb_way w b 8).2.2 i
/-- good in breath k + 1 -/
def eb_gd (w : Nat → Int32) (l : Nat → Int32) (k : Nat) : Int32 := eb_S (fun i => l (16 * k + ((w 9).toNatClampNeg + i))) ((w 10).toNatClampNeg + 1 - (w 9).toNatClampNeg)
/-- the rows of a Fates: what becomes of bird b's feather -/
def eb_FT (w : Nat → Int32) (b : Nat) (f : Nat → Nat → Int32) : Prop :=
  f 0 0 = eb_off w (nI b) ∧ f 0 1 = eb_alo w (nI b) ∧ (∀ j, j < 128 → f 1 j = eb_lan w (nI b) j) ∧ ∀ k, k < 8 → f 2 (k + 1) = eb_gd w (eb_lan w (nI b)) k
end SPEC
