def il_len : Nat → Nat := fun j => ([45, 120, 630, 990, 990, 210, 360, 7140, 990, 45, 120, 120] : List Nat).getD j 0
def ta {α : Type} (n : Nat) (f : Nat → α) (i : Int32) : Option α := if i < 0 ∨ n ≤ i.toNatClampNeg then none else some (f i.toNatClampNeg)
def twi (n : Nat) (f : Nat → Int32) (i x : Int32) : Option (Nat → Int32) := if i < 0 ∨ n ≤ i.toNatClampNeg then none else some (upd f i.toNatClampNeg x)
def twl (n : Nat) (f : Nat → Int64) (i : Int32) (x : Int64) : Option (Nat → Int64) := if i < 0 ∨ n ≤ i.toNatClampNeg then none else some (vp_updL f i.toNatClampNeg x)
def twz (n : Nat) (f : Nat → Int32) (i x : Int32) : Option (Nat → Int32) := if x = 0 ∨ x = 1 then twi n f i x else none
def tz (x : Int32) : Option Int32 := if x = 0 ∨ x = 1 then some x else none
def tk (b : Nat) (y : Option Nat) : Option Nat := match y with
  | none => none
  | some j => if j < b then some j else none
abbrev CS : Type := Int32 × Int32 × Int32 × (Nat → Int32) × (Nat → Int32) × Int32 × Int32 × (Nat → Int32) × (Nat → Int64) × (Nat → Int32) × (Nat → Int32) × (Nat → Int64) × (Nat → Int64) × (Nat → Nat → Int32) × (Nat → Nat → Int32) × (Nat → Int32) × (Nat → Int32) × (Nat → Int64) × (Nat → Int32) × (Nat → Int32) × (Nat → Nat → Int32) × (Nat → Int32)
def cs_seed (s : CS) : Int32 := s.1
def cs_figs (s : CS) : Int32 := s.2.1
def cs_psize (s : CS) : Int32 := s.2.2.1
def cs_kinds (s : CS) : Nat → Int32 := s.2.2.2.1
def cs_srcs (s : CS) : Nat → Int32 := s.2.2.2.2.1
def cs_pts (s : CS) : Int32 := s.2.2.2.2.2.1
def cs_known (s : CS) : Int32 := s.2.2.2.2.2.2.1
def cs_leads (s : CS) : Nat → Int32 := s.2.2.2.2.2.2.2.1
def cs_areas (s : CS) : Nat → Int64 := s.2.2.2.2.2.2.2.2.1
def cs_stand (s : CS) : Nat → Int32 := s.2.2.2.2.2.2.2.2.2.1
def cs_dsize (s : CS) : Nat → Int32 := s.2.2.2.2.2.2.2.2.2.2.1
def cs_divr (s : CS) : Nat → Int64 := s.2.2.2.2.2.2.2.2.2.2.2.1
def cs_invs (s : CS) : Nat → Int64 := s.2.2.2.2.2.2.2.2.2.2.2.2.1
def cs_fx (s : CS) : Nat → Nat → Int32 := s.2.2.2.2.2.2.2.2.2.2.2.2.2.1
def cs_fy (s : CS) : Nat → Nat → Int32 := s.2.2.2.2.2.2.2.2.2.2.2.2.2.2.1
def cs_made (s : CS) : Nat → Int32 := s.2.2.2.2.2.2.2.2.2.2.2.2.2.2.2.1
def cs_fallen (s : CS) : Nat → Int32 := s.2.2.2.2.2.2.2.2.2.2.2.2.2.2.2.2.1
def cs_rnd (s : CS) : Nat → Int64 := s.2.2.2.2.2.2.2.2.2.2.2.2.2.2.2.2.2.1
def cs_foundX (s : CS) : Nat → Int32 := s.2.2.2.2.2.2.2.2.2.2.2.2.2.2.2.2.2.2.1
def cs_foundY (s : CS) : Nat → Int32 := s.2.2.2.2.2.2.2.2.2.2.2.2.2.2.2.2.2.2.2.1
def cs_items (s : CS) : Nat → Nat → Int32 := s.2.2.2.2.2.2.2.2.2.2.2.2.2.2.2.2.2.2.2.2.1
def cs_lsize (s : CS) : Nat → Int32 := s.2.2.2.2.2.2.2.2.2.2.2.2.2.2.2.2.2.2.2.2.2
def cs_set_seed (s : CS) (v : Int32) : CS := (v, s.2)
def cs_set_figs (s : CS) (v : Int32) : CS := (s.1, v, s.2.2)
def cs_set_psize (s : CS) (v : Int32) : CS := (s.1, s.2.1, v, s.2.2.2)
def cs_set_kinds (s : CS) (v : Nat → Int32) : CS := (s.1, s.2.1, s.2.2.1, v, s.2.2.2.2)
def cs_set_srcs (s : CS) (v : Nat → Int32) : CS := (s.1, s.2.1, s.2.2.1, s.2.2.2.1, v, s.2.2.2.2.2)
def cs_set_pts (s : CS) (v : Int32) : CS := (s.1, s.2.1, s.2.2.1, s.2.2.2.1, s.2.2.2.2.1, v, s.2.2.2.2.2.2)
def cs_set_known (s : CS) (v : Int32) : CS := (s.1, s.2.1, s.2.2.1, s.2.2.2.1, s.2.2.2.2.1, s.2.2.2.2.2.1, v, s.2.2.2.2.2.2.2)
def cs_set_leads (s : CS) (v : Nat → Int32) : CS := (s.1, s.2.1, s.2.2.1, s.2.2.2.1, s.2.2.2.2.1, s.2.2.2.2.2.1, s.2.2.2.2.2.2.1, v, s.2.2.2.2.2.2.2.2)
def cs_set_areas (s : CS) (v : Nat → Int64) : CS := (s.1, s.2.1, s.2.2.1, s.2.2.2.1, s.2.2.2.2.1, s.2.2.2.2.2.1, s.2.2.2.2.2.2.1, s.2.2.2.2.2.2.2.1, v, s.2.2.2.2.2.2.2.2.2)
def cs_set_stand (s : CS) (v : Nat → Int32) : CS := (s.1, s.2.1, s.2.2.1, s.2.2.2.1, s.2.2.2.2.1, s.2.2.2.2.2.1, s.2.2.2.2.2.2.1, s.2.2.2.2.2.2.2.1, s.2.2.2.2.2.2.2.2.1, v, s.2.2.2.2.2.2.2.2.2.2)
def cs_set_dsize (s : CS) (v : Nat → Int32) : CS := (s.1, s.2.1, s.2.2.1, s.2.2.2.1, s.2.2.2.2.1, s.2.2.2.2.2.1, s.2.2.2.2.2.2.1, s.2.2.2.2.2.2.2.1, s.2.2.2.2.2.2.2.2.1, s.2.2.2.2.2.2.2.2.2.1, v, s.2.2.2.2.2.2.2.2.2.2.2)
def cs_set_divr (s : CS) (v : Nat → Int64) : CS := (s.1, s.2.1, s.2.2.1, s.2.2.2.1, s.2.2.2.2.1, s.2.2.2.2.2.1, s.2.2.2.2.2.2.1, s.2.2.2.2.2.2.2.1, s.2.2.2.2.2.2.2.2.1, s.2.2.2.2.2.2.2.2.2.1, s.2.2.2.2.2.2.2.2.2.2.1, v, s.2.2.2.2.2.2.2.2.2.2.2.2)
def cs_set_invs (s : CS) (v : Nat → Int64) : CS := (s.1, s.2.1, s.2.2.1, s.2.2.2.1, s.2.2.2.2.1, s.2.2.2.2.2.1, s.2.2.2.2.2.2.1, s.2.2.2.2.2.2.2.1, s.2.2.2.2.2.2.2.2.1, s.2.2.2.2.2.2.2.2.2.1, s.2.2.2.2.2.2.2.2.2.2.1, s.2.2.2.2.2.2.2.2.2.2.2.1, v, s.2.2.2.2.2.2.2.2.2.2.2.2.2)
def cs_set_fx (s : CS) (v : Nat → Nat → Int32) : CS := (s.1, s.2.1, s.2.2.1, s.2.2.2.1, s.2.2.2.2.1, s.2.2.2.2.2.1, s.2.2.2.2.2.2.1, s.2.2.2.2.2.2.2.1, s.2.2.2.2.2.2.2.2.1, s.2.2.2.2.2.2.2.2.2.1, s.2.2.2.2.2.2.2.2.2.2.1, s.2.2.2.2.2.2.2.2.2.2.2.1, s.2.2.2.2.2.2.2.2.2.2.2.2.1, v, s.2.2.2.2.2.2.2.2.2.2.2.2.2.2)
def cs_set_fy (s : CS) (v : Nat → Nat → Int32) : CS := (s.1, s.2.1, s.2.2.1, s.2.2.2.1, s.2.2.2.2.1, s.2.2.2.2.2.1, s.2.2.2.2.2.2.1, s.2.2.2.2.2.2.2.1, s.2.2.2.2.2.2.2.2.1, s.2.2.2.2.2.2.2.2.2.1, s.2.2.2.2.2.2.2.2.2.2.1, s.2.2.2.2.2.2.2.2.2.2.2.1, s.2.2.2.2.2.2.2.2.2.2.2.2.1, s.2.2.2.2.2.2.2.2.2.2.2.2.2.1, v, s.2.2.2.2.2.2.2.2.2.2.2.2.2.2.2)
def cs_set_made (s : CS) (v : Nat → Int32) : CS := (s.1, s.2.1, s.2.2.1, s.2.2.2.1, s.2.2.2.2.1, s.2.2.2.2.2.1, s.2.2.2.2.2.2.1, s.2.2.2.2.2.2.2.1, s.2.2.2.2.2.2.2.2.1, s.2.2.2.2.2.2.2.2.2.1, s.2.2.2.2.2.2.2.2.2.2.1, s.2.2.2.2.2.2.2.2.2.2.2.1, s.2.2.2.2.2.2.2.2.2.2.2.2.1, s.2.2.2.2.2.2.2.2.2.2.2.2.2.1, s.2.2.2.2.2.2.2.2.2.2.2.2.2.2.1, v, s.2.2.2.2.2.2.2.2.2.2.2.2.2.2.2.2)
def cs_set_fallen (s : CS) (v : Nat → Int32) : CS := (s.1, s.2.1, s.2.2.1, s.2.2.2.1, s.2.2.2.2.1, s.2.2.2.2.2.1, s.2.2.2.2.2.2.1, s.2.2.2.2.2.2.2.1, s.2.2.2.2.2.2.2.2.1, s.2.2.2.2.2.2.2.2.2.1, s.2.2.2.2.2.2.2.2.2.2.1, s.2.2.2.2.2.2.2.2.2.2.2.1, s.2.2.2.2.2.2.2.2.2.2.2.2.1, s.2.2.2.2.2.2.2.2.2.2.2.2.2.1, s.2.2.2.2.2.2.2.2.2.2.2.2.2.2.1, s.2.2.2.2.2.2.2.2.2.2.2.2.2.2.2.1, v, s.2.2.2.2.2.2.2.2.2.2.2.2.2.2.2.2.2)
def cs_set_rnd (s : CS) (v : Nat → Int64) : CS := (s.1, s.2.1, s.2.2.1, s.2.2.2.1, s.2.2.2.2.1, s.2.2.2.2.2.1, s.2.2.2.2.2.2.1, s.2.2.2.2.2.2.2.1, s.2.2.2.2.2.2.2.2.1, s.2.2.2.2.2.2.2.2.2.1, s.2.2.2.2.2.2.2.2.2.2.1, s.2.2.2.2.2.2.2.2.2.2.2.1, s.2.2.2.2.2.2.2.2.2.2.2.2.1, s.2.2.2.2.2.2.2.2.2.2.2.2.2.1, s.2.2.2.2.2.2.2.2.2.2.2.2.2.2.1, s.2.2.2.2.2.2.2.2.2.2.2.2.2.2.2.1, s.2.2.2.2.2.2.2.2.2.2.2.2.2.2.2.2.1, v, s.2.2.2.2.2.2.2.2.2.2.2.2.2.2.2.2.2.2)
def cs_set_foundX (s : CS) (v : Nat → Int32) : CS := (s.1, s.2.1, s.2.2.1, s.2.2.2.1, s.2.2.2.2.1, s.2.2.2.2.2.1, s.2.2.2.2.2.2.1, s.2.2.2.2.2.2.2.1, s.2.2.2.2.2.2.2.2.1, s.2.2.2.2.2.2.2.2.2.1, s.2.2.2.2.2.2.2.2.2.2.1, s.2.2.2.2.2.2.2.2.2.2.2.1, s.2.2.2.2.2.2.2.2.2.2.2.2.1, s.2.2.2.2.2.2.2.2.2.2.2.2.2.1, s.2.2.2.2.2.2.2.2.2.2.2.2.2.2.1, s.2.2.2.2.2.2.2.2.2.2.2.2.2.2.2.1, s.2.2.2.2.2.2.2.2.2.2.2.2.2.2.2.2.1, s.2.2.2.2.2.2.2.2.2.2.2.2.2.2.2.2.2.1, v, s.2.2.2.2.2.2.2.2.2.2.2.2.2.2.2.2.2.2.2)
def cs_set_foundY (s : CS) (v : Nat → Int32) : CS := (s.1, s.2.1, s.2.2.1, s.2.2.2.1, s.2.2.2.2.1, s.2.2.2.2.2.1, s.2.2.2.2.2.2.1, s.2.2.2.2.2.2.2.1, s.2.2.2.2.2.2.2.2.1, s.2.2.2.2.2.2.2.2.2.1, s.2.2.2.2.2.2.2.2.2.2.1, s.2.2.2.2.2.2.2.2.2.2.2.1, s.2.2.2.2.2.2.2.2.2.2.2.2.1, s.2.2.2.2.2.2.2.2.2.2.2.2.2.1, s.2.2.2.2.2.2.2.2.2.2.2.2.2.2.1, s.2.2.2.2.2.2.2.2.2.2.2.2.2.2.2.1, s.2.2.2.2.2.2.2.2.2.2.2.2.2.2.2.2.1, s.2.2.2.2.2.2.2.2.2.2.2.2.2.2.2.2.2.1, s.2.2.2.2.2.2.2.2.2.2.2.2.2.2.2.2.2.2.1, v, s.2.2.2.2.2.2.2.2.2.2.2.2.2.2.2.2.2.2.2.2)
def cs_set_items (s : CS) (v : Nat → Nat → Int32) : CS := (s.1, s.2.1, s.2.2.1, s.2.2.2.1, s.2.2.2.2.1, s.2.2.2.2.2.1, s.2.2.2.2.2.2.1, s.2.2.2.2.2.2.2.1, s.2.2.2.2.2.2.2.2.1, s.2.2.2.2.2.2.2.2.2.1, s.2.2.2.2.2.2.2.2.2.2.1, s.2.2.2.2.2.2.2.2.2.2.2.1, s.2.2.2.2.2.2.2.2.2.2.2.2.1, s.2.2.2.2.2.2.2.2.2.2.2.2.2.1, s.2.2.2.2.2.2.2.2.2.2.2.2.2.2.1, s.2.2.2.2.2.2.2.2.2.2.2.2.2.2.2.1, s.2.2.2.2.2.2.2.2.2.2.2.2.2.2.2.2.1, s.2.2.2.2.2.2.2.2.2.2.2.2.2.2.2.2.2.1, s.2.2.2.2.2.2.2.2.2.2.2.2.2.2.2.2.2.2.1, s.2.2.2.2.2.2.2.2.2.2.2.2.2.2.2.2.2.2.2.1, v, s.2.2.2.2.2.2.2.2.2.2.2.2.2.2.2.2.2.2.2.2.2)
def cs_set_lsize (s : CS) (v : Nat → Int32) : CS := (s.1, s.2.1, s.2.2.1, s.2.2.2.1, s.2.2.2.2.1, s.2.2.2.2.2.1, s.2.2.2.2.2.2.1, s.2.2.2.2.2.2.2.1, s.2.2.2.2.2.2.2.2.1, s.2.2.2.2.2.2.2.2.2.1, s.2.2.2.2.2.2.2.2.2.2.1, s.2.2.2.2.2.2.2.2.2.2.2.1, s.2.2.2.2.2.2.2.2.2.2.2.2.1, s.2.2.2.2.2.2.2.2.2.2.2.2.2.1, s.2.2.2.2.2.2.2.2.2.2.2.2.2.2.1, s.2.2.2.2.2.2.2.2.2.2.2.2.2.2.2.1, s.2.2.2.2.2.2.2.2.2.2.2.2.2.2.2.2.1, s.2.2.2.2.2.2.2.2.2.2.2.2.2.2.2.2.2.1, s.2.2.2.2.2.2.2.2.2.2.2.2.2.2.2.2.2.2.1, s.2.2.2.2.2.2.2.2.2.2.2.2.2.2.2.2.2.2.2.1, s.2.2.2.2.2.2.2.2.2.2.2.2.2.2.2.2.2.2.2.2.1, v)
abbrev MS : Type := Int32 × (Nat → Int32) × (Nat → Int32) × Int32 × Int32 × (Nat → Int64) × (Nat → Int64) × (Nat → Int32) × Int32 × Int64 × Int64 × Int64 × Int32 × (Nat → Int32) × Int32 × Int32 × (Nat → Int32) × Int32 × Int32 × (Nat → Int32) × Int32 × (Nat → Int32)
def ms_many (s : MS) : Int32 := s.1
def ms_kindOf (s : MS) : Nat → Int32 := s.2.1
def ms_need (s : MS) : Nat → Int32 := s.2.2.1
def ms_seed (s : MS) : Int32 := s.2.2.2.1
def ms_figs (s : MS) : Int32 := s.2.2.2.2.1
def ms_xs (s : MS) : Nat → Int64 := s.2.2.2.2.2.1
def ms_ys (s : MS) : Nat → Int64 := s.2.2.2.2.2.2.1
def ms_fallsAt (s : MS) : Nat → Int32 := s.2.2.2.2.2.2.2.1
def ms_figure (s : MS) : Int32 := s.2.2.2.2.2.2.2.2.1
def ms_rnd (s : MS) : Int64 := s.2.2.2.2.2.2.2.2.2.1
def ms_px (s : MS) : Int64 := s.2.2.2.2.2.2.2.2.2.2.1
def ms_py (s : MS) : Int64 := s.2.2.2.2.2.2.2.2.2.2.2.1
def ms_isFallen (s : MS) : Int32 := s.2.2.2.2.2.2.2.2.2.2.2.2.1
def ms_row (s : MS) : Nat → Int32 := s.2.2.2.2.2.2.2.2.2.2.2.2.2.1
def ms_foundM (s : MS) : Int32 := s.2.2.2.2.2.2.2.2.2.2.2.2.2.2.1
def ms_foundN (s : MS) : Int32 := s.2.2.2.2.2.2.2.2.2.2.2.2.2.2.2.1
def ms_same (s : MS) : Nat → Int32 := s.2.2.2.2.2.2.2.2.2.2.2.2.2.2.2.2.1
def ms_seen (s : MS) : Int32 := s.2.2.2.2.2.2.2.2.2.2.2.2.2.2.2.2.2.1
def ms_wanted (s : MS) : Int32 := s.2.2.2.2.2.2.2.2.2.2.2.2.2.2.2.2.2.2.1
def ms_found (s : MS) : Nat → Int32 := s.2.2.2.2.2.2.2.2.2.2.2.2.2.2.2.2.2.2.2.1
def ms_isFound (s : MS) : Int32 := s.2.2.2.2.2.2.2.2.2.2.2.2.2.2.2.2.2.2.2.2.1
def ms_isSet (s : MS) : Nat → Int32 := s.2.2.2.2.2.2.2.2.2.2.2.2.2.2.2.2.2.2.2.2.2
def ms_set_many (s : MS) (v : Int32) : MS := (v, s.2)
def ms_set_kindOf (s : MS) (v : Nat → Int32) : MS := (s.1, v, s.2.2)
def ms_set_need (s : MS) (v : Nat → Int32) : MS := (s.1, s.2.1, v, s.2.2.2)
def ms_set_seed (s : MS) (v : Int32) : MS := (s.1, s.2.1, s.2.2.1, v, s.2.2.2.2)
def ms_set_figs (s : MS) (v : Int32) : MS := (s.1, s.2.1, s.2.2.1, s.2.2.2.1, v, s.2.2.2.2.2)
def ms_set_xs (s : MS) (v : Nat → Int64) : MS := (s.1, s.2.1, s.2.2.1, s.2.2.2.1, s.2.2.2.2.1, v, s.2.2.2.2.2.2)
def ms_set_ys (s : MS) (v : Nat → Int64) : MS := (s.1, s.2.1, s.2.2.1, s.2.2.2.1, s.2.2.2.2.1, s.2.2.2.2.2.1, v, s.2.2.2.2.2.2.2)
def ms_set_fallsAt (s : MS) (v : Nat → Int32) : MS := (s.1, s.2.1, s.2.2.1, s.2.2.2.1, s.2.2.2.2.1, s.2.2.2.2.2.1, s.2.2.2.2.2.2.1, v, s.2.2.2.2.2.2.2.2)
def ms_set_figure (s : MS) (v : Int32) : MS := (s.1, s.2.1, s.2.2.1, s.2.2.2.1, s.2.2.2.2.1, s.2.2.2.2.2.1, s.2.2.2.2.2.2.1, s.2.2.2.2.2.2.2.1, v, s.2.2.2.2.2.2.2.2.2)
def ms_set_rnd (s : MS) (v : Int64) : MS := (s.1, s.2.1, s.2.2.1, s.2.2.2.1, s.2.2.2.2.1, s.2.2.2.2.2.1, s.2.2.2.2.2.2.1, s.2.2.2.2.2.2.2.1, s.2.2.2.2.2.2.2.2.1, v, s.2.2.2.2.2.2.2.2.2.2)
def ms_set_px (s : MS) (v : Int64) : MS := (s.1, s.2.1, s.2.2.1, s.2.2.2.1, s.2.2.2.2.1, s.2.2.2.2.2.1, s.2.2.2.2.2.2.1, s.2.2.2.2.2.2.2.1, s.2.2.2.2.2.2.2.2.1, s.2.2.2.2.2.2.2.2.2.1, v, s.2.2.2.2.2.2.2.2.2.2.2)
def ms_set_py (s : MS) (v : Int64) : MS := (s.1, s.2.1, s.2.2.1, s.2.2.2.1, s.2.2.2.2.1, s.2.2.2.2.2.1, s.2.2.2.2.2.2.1, s.2.2.2.2.2.2.2.1, s.2.2.2.2.2.2.2.2.1, s.2.2.2.2.2.2.2.2.2.1, s.2.2.2.2.2.2.2.2.2.2.1, v, s.2.2.2.2.2.2.2.2.2.2.2.2)
def ms_set_isFallen (s : MS) (v : Int32) : MS := (s.1, s.2.1, s.2.2.1, s.2.2.2.1, s.2.2.2.2.1, s.2.2.2.2.2.1, s.2.2.2.2.2.2.1, s.2.2.2.2.2.2.2.1, s.2.2.2.2.2.2.2.2.1, s.2.2.2.2.2.2.2.2.2.1, s.2.2.2.2.2.2.2.2.2.2.1, s.2.2.2.2.2.2.2.2.2.2.2.1, v, s.2.2.2.2.2.2.2.2.2.2.2.2.2)
def ms_set_row (s : MS) (v : Nat → Int32) : MS := (s.1, s.2.1, s.2.2.1, s.2.2.2.1, s.2.2.2.2.1, s.2.2.2.2.2.1, s.2.2.2.2.2.2.1, s.2.2.2.2.2.2.2.1, s.2.2.2.2.2.2.2.2.1, s.2.2.2.2.2.2.2.2.2.1, s.2.2.2.2.2.2.2.2.2.2.1, s.2.2.2.2.2.2.2.2.2.2.2.1, s.2.2.2.2.2.2.2.2.2.2.2.2.1, v, s.2.2.2.2.2.2.2.2.2.2.2.2.2.2)
def ms_set_foundM (s : MS) (v : Int32) : MS := (s.1, s.2.1, s.2.2.1, s.2.2.2.1, s.2.2.2.2.1, s.2.2.2.2.2.1, s.2.2.2.2.2.2.1, s.2.2.2.2.2.2.2.1, s.2.2.2.2.2.2.2.2.1, s.2.2.2.2.2.2.2.2.2.1, s.2.2.2.2.2.2.2.2.2.2.1, s.2.2.2.2.2.2.2.2.2.2.2.1, s.2.2.2.2.2.2.2.2.2.2.2.2.1, s.2.2.2.2.2.2.2.2.2.2.2.2.2.1, v, s.2.2.2.2.2.2.2.2.2.2.2.2.2.2.2)
def ms_set_foundN (s : MS) (v : Int32) : MS := (s.1, s.2.1, s.2.2.1, s.2.2.2.1, s.2.2.2.2.1, s.2.2.2.2.2.1, s.2.2.2.2.2.2.1, s.2.2.2.2.2.2.2.1, s.2.2.2.2.2.2.2.2.1, s.2.2.2.2.2.2.2.2.2.1, s.2.2.2.2.2.2.2.2.2.2.1, s.2.2.2.2.2.2.2.2.2.2.2.1, s.2.2.2.2.2.2.2.2.2.2.2.2.1, s.2.2.2.2.2.2.2.2.2.2.2.2.2.1, s.2.2.2.2.2.2.2.2.2.2.2.2.2.2.1, v, s.2.2.2.2.2.2.2.2.2.2.2.2.2.2.2.2)
def ms_set_same (s : MS) (v : Nat → Int32) : MS := (s.1, s.2.1, s.2.2.1, s.2.2.2.1, s.2.2.2.2.1, s.2.2.2.2.2.1, s.2.2.2.2.2.2.1, s.2.2.2.2.2.2.2.1, s.2.2.2.2.2.2.2.2.1, s.2.2.2.2.2.2.2.2.2.1, s.2.2.2.2.2.2.2.2.2.2.1, s.2.2.2.2.2.2.2.2.2.2.2.1, s.2.2.2.2.2.2.2.2.2.2.2.2.1, s.2.2.2.2.2.2.2.2.2.2.2.2.2.1, s.2.2.2.2.2.2.2.2.2.2.2.2.2.2.1, s.2.2.2.2.2.2.2.2.2.2.2.2.2.2.2.1, v, s.2.2.2.2.2.2.2.2.2.2.2.2.2.2.2.2.2)
def ms_set_seen (s : MS) (v : Int32) : MS := (s.1, s.2.1, s.2.2.1, s.2.2.2.1, s.2.2.2.2.1, s.2.2.2.2.2.1, s.2.2.2.2.2.2.1, s.2.2.2.2.2.2.2.1, s.2.2.2.2.2.2.2.2.1, s.2.2.2.2.2.2.2.2.2.1, s.2.2.2.2.2.2.2.2.2.2.1, s.2.2.2.2.2.2.2.2.2.2.2.1, s.2.2.2.2.2.2.2.2.2.2.2.2.1, s.2.2.2.2.2.2.2.2.2.2.2.2.2.1, s.2.2.2.2.2.2.2.2.2.2.2.2.2.2.1, s.2.2.2.2.2.2.2.2.2.2.2.2.2.2.2.1, s.2.2.2.2.2.2.2.2.2.2.2.2.2.2.2.2.1, v, s.2.2.2.2.2.2.2.2.2.2.2.2.2.2.2.2.2.2)
def ms_set_wanted (s : MS) (v : Int32) : MS := (s.1, s.2.1, s.2.2.1, s.2.2.2.1, s.2.2.2.2.1, s.2.2.2.2.2.1, s.2.2.2.2.2.2.1, s.2.2.2.2.2.2.2.1, s.2.2.2.2.2.2.2.2.1, s.2.2.2.2.2.2.2.2.2.1, s.2.2.2.2.2.2.2.2.2.2.1, s.2.2.2.2.2.2.2.2.2.2.2.1, s.2.2.2.2.2.2.2.2.2.2.2.2.1, s.2.2.2.2.2.2.2.2.2.2.2.2.2.1, s.2.2.2.2.2.2.2.2.2.2.2.2.2.2.1, s.2.2.2.2.2.2.2.2.2.2.2.2.2.2.2.1, s.2.2.2.2.2.2.2.2.2.2.2.2.2.2.2.2.1, s.2.2.2.2.2.2.2.2.2.2.2.2.2.2.2.2.2.1, v, s.2.2.2.2.2.2.2.2.2.2.2.2.2.2.2.2.2.2.2)
def ms_set_found (s : MS) (v : Nat → Int32) : MS := (s.1, s.2.1, s.2.2.1, s.2.2.2.1, s.2.2.2.2.1, s.2.2.2.2.2.1, s.2.2.2.2.2.2.1, s.2.2.2.2.2.2.2.1, s.2.2.2.2.2.2.2.2.1, s.2.2.2.2.2.2.2.2.2.1, s.2.2.2.2.2.2.2.2.2.2.1, s.2.2.2.2.2.2.2.2.2.2.2.1, s.2.2.2.2.2.2.2.2.2.2.2.2.1, s.2.2.2.2.2.2.2.2.2.2.2.2.2.1, s.2.2.2.2.2.2.2.2.2.2.2.2.2.2.1, s.2.2.2.2.2.2.2.2.2.2.2.2.2.2.2.1, s.2.2.2.2.2.2.2.2.2.2.2.2.2.2.2.2.1, s.2.2.2.2.2.2.2.2.2.2.2.2.2.2.2.2.2.1, s.2.2.2.2.2.2.2.2.2.2.2.2.2.2.2.2.2.2.1, v, s.2.2.2.2.2.2.2.2.2.2.2.2.2.2.2.2.2.2.2.2)
def ms_set_isFound (s : MS) (v : Int32) : MS := (s.1, s.2.1, s.2.2.1, s.2.2.2.1, s.2.2.2.2.1, s.2.2.2.2.2.1, s.2.2.2.2.2.2.1, s.2.2.2.2.2.2.2.1, s.2.2.2.2.2.2.2.2.1, s.2.2.2.2.2.2.2.2.2.1, s.2.2.2.2.2.2.2.2.2.2.1, s.2.2.2.2.2.2.2.2.2.2.2.1, s.2.2.2.2.2.2.2.2.2.2.2.2.1, s.2.2.2.2.2.2.2.2.2.2.2.2.2.1, s.2.2.2.2.2.2.2.2.2.2.2.2.2.2.1, s.2.2.2.2.2.2.2.2.2.2.2.2.2.2.2.1, s.2.2.2.2.2.2.2.2.2.2.2.2.2.2.2.2.1, s.2.2.2.2.2.2.2.2.2.2.2.2.2.2.2.2.2.1, s.2.2.2.2.2.2.2.2.2.2.2.2.2.2.2.2.2.2.1, s.2.2.2.2.2.2.2.2.2.2.2.2.2.2.2.2.2.2.2.1, v, s.2.2.2.2.2.2.2.2.2.2.2.2.2.2.2.2.2.2.2.2.2)
def ms_set_isSet (s : MS) (v : Nat → Int32) : MS := (s.1, s.2.1, s.2.2.1, s.2.2.2.1, s.2.2.2.2.1, s.2.2.2.2.2.1, s.2.2.2.2.2.2.1, s.2.2.2.2.2.2.2.1, s.2.2.2.2.2.2.2.2.1, s.2.2.2.2.2.2.2.2.2.1, s.2.2.2.2.2.2.2.2.2.2.1, s.2.2.2.2.2.2.2.2.2.2.2.1, s.2.2.2.2.2.2.2.2.2.2.2.2.1, s.2.2.2.2.2.2.2.2.2.2.2.2.2.1, s.2.2.2.2.2.2.2.2.2.2.2.2.2.2.1, s.2.2.2.2.2.2.2.2.2.2.2.2.2.2.2.1, s.2.2.2.2.2.2.2.2.2.2.2.2.2.2.2.2.1, s.2.2.2.2.2.2.2.2.2.2.2.2.2.2.2.2.2.1, s.2.2.2.2.2.2.2.2.2.2.2.2.2.2.2.2.2.2.1, s.2.2.2.2.2.2.2.2.2.2.2.2.2.2.2.2.2.2.2.1, s.2.2.2.2.2.2.2.2.2.2.2.2.2.2.2.2.2.2.2.2.1, v)
def cs_Cell (K : Nat → ClassId) (L : Nat → Nat → Nat) (s : CS) (t i : Nat) : va_E := match t with
  | 0 => .inr (0, [.ref (L 1 0), .ref (L 4 0), .ref (L 5 1), .int (cs_seed s), .int (cs_figs s)])
  | 1 => .inr (1, [.ref (L 2 0), .ref (L 3 0), .int (cs_psize s)])
  | 2 => .inl (K 0, 10, .inl (cs_kinds s))
  | 3 => .inl (K 0, 40, .inl (cs_srcs s))
  | 4 => .inr (2, [.ref (L 5 0), .ref (L 12 0), .ref (L 10 9), .ref (L 10 10), .ref (L 13 0), .ref (L 10 11), .ref (L 14 0), .int (cs_pts s), .int (cs_known s)])
  | 5 => .inr (3, [.ref (L 6 i), .int (cs_stand s i), .int (cs_dsize s i), .long (cs_divr s i), .long (cs_invs s i)])
  | 6 => .inl (K 3, 5, .inr <| .inr <| .inr <| .inr (fun g => some (L 7 (5 * i + g))))
  | 7 => .inr (4, [.ref (L 8 i), .ref (L 9 i), .int (cs_made s i), .int (cs_fallen s i), .long (cs_rnd s i), .int (cs_foundX s i), .int (cs_foundY s i)])
  | 8 => .inl (K 0, 16, .inl (cs_fx s i))
  | 9 => .inl (K 0, 16, .inl (cs_fy s i))
  | 10 => .inr (5, [.ref (L 11 i), .int (cs_lsize s i)])
  | 11 => .inl (K 0, (il_len i), .inl (cs_items s i))
  | 12 => .inl (K 4, 9, .inr <| .inr <| .inr <| .inr (fun g => some (L 10 g)))
  | 13 => .inl (K 0, 16, .inl (cs_leads s))
  | _ => .inl (K 1, 120, .inr <| .inl (cs_areas s))
def cs_bd : Nat → Nat := fun t => ([1, 1, 1, 1, 1, 2, 2, 10, 10, 10, 12, 12, 1, 1, 1] : List Nat).getD t 0
/-- the world h holds the state s at the places L, and is hb elsewhere -/
def cs_W (K : Nat → ClassId) (L : Nat → Nat → Nat) (hb h : fh_H) (s : CS) : Prop := (∀ t i, i < cs_bd t → h (L t i) = some (cs_Cell K L s t i)) ∧ ∀ q, (∀ t i, i < cs_bd t → q ≠ L t i) → h q = hb q
def cs_I (L : Nat → Nat → Nat) : Prop := ∀ t i t2 i2, i < cs_bd t → i2 < cs_bd t2 → L t i = L t2 i2 → t = t2 ∧ i = i2
def ms_Cell (K : Nat → ClassId) (L : Nat → Nat → Nat) (s : MS) (t i : Nat) : va_E := match t with
  | 0 => .inr (6, [.int (ms_many s), .ref (L 1 0), .ref (L 2 0), .int (ms_seed s), .int (ms_figs s), .ref (L 3 0), .ref (L 4 0), .ref (L 5 0), .int (ms_figure s), .long (ms_rnd s), .long (ms_px s), .long (ms_py s), .int (ms_isFallen s), .ref (L 6 0), .int (ms_foundM s), .int (ms_foundN s), .ref (L 7 0), .int (ms_seen s), .int (ms_wanted s), .ref (L 8 0), .int (ms_isFound s), .ref (L 9 0)])
  | 1 => .inl (K 0, 10, .inl (ms_kindOf s))
  | 2 => .inl (K 0, 40, .inl (ms_need s))
  | 3 => .inl (K 1, 50, .inr <| .inl (ms_xs s))
  | 4 => .inl (K 1, 50, .inr <| .inl (ms_ys s))
  | 5 => .inl (K 0, 5, .inl (ms_fallsAt s))
  | 6 => .inl (K 0, 6, .inl (ms_row s))
  | 7 => .inl (K 2, 100, .inl (ms_same s))
  | 8 => .inl (K 0, 6, .inl (ms_found s))
  | _ => .inl (K 2, 1024, .inl (ms_isSet s))
def ms_bd : Nat → Nat := fun t => ([1, 1, 1, 1, 1, 1, 1, 1, 1, 1] : List Nat).getD t 0
/-- the world h holds the state s at the places L, and is hb elsewhere -/
def ms_W (K : Nat → ClassId) (L : Nat → Nat → Nat) (hb h : fh_H) (s : MS) : Prop := (∀ t i, i < ms_bd t → h (L t i) = some (ms_Cell K L s t i)) ∧ ∀ q, (∀ t i, i < ms_bd t → q ≠ L t i) → h q = hb q
def ms_I (L : Nat → Nat → Nat) : Prop := ∀ t i t2 i2, i < ms_bd t → i2 < ms_bd t2 → L t i = L t2 i2 → t = t2 ∧ i = i2
def RO {β : Type} (G : β → Prop) (e : Option β) : Prop := ∃ z, e = some z ∧ G z
theorem ro_b {α β : Type} {G : β → Prop} {o : Option α} {f : α → Option β} {x : α} (ho : o = some x) (k : RO G (f x)) : RO G (o.bind f) := by
  rw [ho]
  exact k
theorem ro_c {α β : Type} {G1 : α → Prop} {G : β → Prop} {o : Option α} {f : α → Option β} (ho : RO G1 o) (k : ∀ z, G1 z → RO G (f z)) : RO G (o.bind f) := by
  obtain ⟨z, e, g⟩ := ho
  rw [e]
  exact k z g
theorem ro_t {β : Type} {G : β → Prop} {c : Prop} [Decidable c] {x y : Option β} (hc : c) (k : RO G x) : RO G (if c then x else y) := by
  rw [if_pos hc]
  exact k
theorem ro_f {β : Type} {G : β → Prop} {c : Prop} [Decidable c] {x y : Option β} (hc : ¬ c) (k : RO G y) : RO G (if c then x else y) := by
  rw [if_neg hc]
  exact k
theorem ro_s {β : Type} {G : β → Prop} {z : β} (g : G z) : RO G (some z) := ⟨z, rfl, g⟩
theorem ro_z {G : Int32 × fh_H → Prop} {x : Int32} {h : fh_H} (hz : x = 0 ∨ x = 1) (g : G (x, h)) : RO G (fz x h) := ⟨(x, h), by unfold fz; rw [if_pos hz], g⟩
theorem tk_s {b j : Nat} {y : Option Nat} (e : tk b y = some j) : y = some j ∧ j < b := by
  unfold tk at e
  split at e
  · cases e
  · split at e
    · rename_i h
      cases e
      exact ⟨rfl, h⟩
    · cases e
theorem tz_s {x r : Int32} (e : tz x = some r) : (x = 0 ∨ x = 1) ∧ x = r := by
  unfold tz at e
  split at e
  · rename_i h
    exact ⟨h, Option.some.inj e⟩
  · cases e
theorem ta_lt {α : Type} {n : Nat} {f : Nat → α} {i : Int32} {x : α} (e : ta n f i = some x) : ∃ k, k < n ∧ x = f k := by
  unfold ta at e
  split at e
  · cases e
  · rename_i h
    cases e
    exact ⟨_, Nat.not_le.mp (fun q => h (Or.inr q)), rfl⟩
theorem oi_i {h : fh_H} {a ci k : Nat} {fs : List Value} {x : Int32} (ha : h a = some (.inr (ci, fs))) (hx : fs[k]? = some (.int x)) : fg_i h (some a) ci k = some x := by simp [fg_i, ha, hx]
theorem oi_l {h : fh_H} {a ci k : Nat} {fs : List Value} {x : Int64} (ha : h a = some (.inr (ci, fs))) (hx : fs[k]? = some (.long x)) : fg_l h (some a) ci k = some x := by simp [fg_l, ha, hx]
theorem oi_a {h : fh_H} {a ci k x : Nat} {fs : List Value} (ha : h a = some (.inr (ci, fs))) (hx : fs[k]? = some (.ref x)) : fg_a h (some a) ci k = some (some x) := by simp [fg_a, ha, hx]
theorem oi_o {h : fh_H} {a ci : Nat} {fs : List Value} (ha : h a = some (.inr (ci, fs))) : fg_o h (some a) ci = some a := by simp [fg_o, ha]
theorem oi_p {h : fh_H} {a ci k : Nat} {fs : List Value} {x : Value} (ha : h a = some (.inr (ci, fs))) (hk : k < fs.length) : fp_v h (some a) ci k x = some (fh_up h a (.inr (ci, fs.set k x))) := by simp [fp_v, ha, hk]
theorem oi_z {h : fh_H} {a ci k : Nat} {fs : List Value} {x : Int32} (ha : h a = some (.inr (ci, fs))) (hk : k < fs.length) (hz : x = 0 ∨ x = 1) : fp_z h (some a) ci k x = some (fh_up h a (.inr (ci, fs.set k (.int x)))) := by
  unfold fp_z
  rw [if_pos hz]
  exact oi_p ha hk
theorem ai_i {cA : ClassId} {h : fh_H} {a n : Nat} {f : Nat → Int32} {i : Int32} (ha : h a = some (.inl (cA, n, .inl f))) : fa_i cA h (some a) i = ta n f i := by
  unfold fa_i ta
  simp only [ha]
  by_cases hc : i < 0 ∨ n ≤ i.toNatClampNeg <;> simp [hc]
theorem ai_l {cA : ClassId} {h : fh_H} {a n : Nat} {f : Nat → Int64} {i : Int32} (ha : h a = some (.inl (cA, n, .inr (.inl f)))) : fa_l cA h (some a) i = ta n f i := by
  unfold fa_l ta
  simp only [ha]
  by_cases hc : i < 0 ∨ n ≤ i.toNatClampNeg <;> simp [hc]
theorem ai_a {cA : ClassId} {h : fh_H} {a n : Nat} {f : Nat → Option Nat} {i : Int32} (ha : h a = some (.inl (cA, n, .inr (.inr (.inr (.inr f)))))) : fa_a cA h (some a) i = ta n f i := by
  unfold fa_a ta
  simp only [ha]
  by_cases hc : i < 0 ∨ n ≤ i.toNatClampNeg <;> simp [hc]
theorem ai_m {α β : Type} {n : Nat} {f : Nat → α} {g : α → β} {i : Int32} {x : α} (e : ta n f i = some x) : ta n (fun k => g (f k)) i = some (g x) := by
  unfold ta at e ⊢
  split at e
  · cases e
  · rename_i h
    cases e
    rw [if_neg h]
theorem ai_n {cA : ClassId} {h : fh_H} {a : Nat} {y : vp_A} (ha : h a = some (.inl (cA, y))) : fl_n cA h (some a) = some (Int32.ofNat y.1) := by
  obtain ⟨n, f⟩ := y
  simp [fl_n, ha]
theorem aw_i {cA : ClassId} {h : fh_H} {a n : Nat} {f F : Nat → Int32} {i x : Int32} (ha : h a = some (.inl (cA, n, .inl f))) (e : twi n f i x = some F) : fs_i cA h (some a) i x = some (fh_up h a (.inl (cA, n, .inl F))) := by
  unfold twi at e
  unfold fs_i
  simp only [ha]
  by_cases hc : i < 0 ∨ n ≤ i.toNatClampNeg
  · rw [if_pos hc] at e; cases e
  · rw [if_neg hc] at e
    cases e
    simp [hc]
theorem aw_l {cA : ClassId} {h : fh_H} {a n : Nat} {f F : Nat → Int64} {i : Int32} {x : Int64} (ha : h a = some (.inl (cA, n, .inr (.inl f)))) (e : twl n f i x = some F) : fs_l cA h (some a) i x = some (fh_up h a (.inl (cA, n, .inr (.inl F)))) := by
  unfold twl at e
  unfold fs_l
  simp only [ha]
  by_cases hc : i < 0 ∨ n ≤ i.toNatClampNeg
  · rw [if_pos hc] at e; cases e
  · rw [if_neg hc] at e
    cases e
    simp [hc]
theorem aw_z {cA : ClassId} {h : fh_H} {a n : Nat} {f F : Nat → Int32} {i x : Int32} (ha : h a = some (.inl (cA, n, .inl f))) (e : twz n f i x = some F) : fs_z cA h (some a) i x = some (fh_up h a (.inl (cA, n, .inl F))) := by
  unfold twz at e
  unfold fs_z
  by_cases hz : x = 0 ∨ x = 1
  · rw [if_pos hz] at e ⊢
    exact aw_i ha e
  · rw [if_neg hz] at e
    cases e
theorem cs_up {K : Nat → ClassId} {L : Nat → Nat → Nat} {hb h : fh_H} {s s2 : CS} {t i : Nat} {e : va_E} (hL : cs_I L) (hC : cs_W K L hb h s) (hi : i < cs_bd t) (he : cs_Cell K L s2 t i = e) (ho : ∀ t2 i2, i2 < cs_bd t2 → ¬ (t2 = t ∧ i2 = i) → cs_Cell K L s2 t2 i2 = cs_Cell K L s t2 i2) : cs_W K L hb (fh_up h (L t i) e) s2 := by
  refine ⟨fun t2 i2 h2 => ?_, fun q hq => ?_⟩
  · by_cases hc : t2 = t ∧ i2 = i
    · obtain ⟨rfl, rfl⟩ := hc
      rw [fh_up_s, he]
    · rw [fh_up_n (fun q => hc (hL _ _ _ _ h2 hi q)), hC.1 t2 i2 h2, ho t2 i2 h2 hc]
  · rw [fh_up_n (hq t i hi)]
    exact hC.2 q hq
theorem ms_up {K : Nat → ClassId} {L : Nat → Nat → Nat} {hb h : fh_H} {s s2 : MS} {t i : Nat} {e : va_E} (hL : ms_I L) (hC : ms_W K L hb h s) (hi : i < ms_bd t) (he : ms_Cell K L s2 t i = e) (ho : ∀ t2 i2, i2 < ms_bd t2 → ¬ (t2 = t ∧ i2 = i) → ms_Cell K L s2 t2 i2 = ms_Cell K L s t2 i2) : ms_W K L hb (fh_up h (L t i) e) s2 := by
  refine ⟨fun t2 i2 h2 => ?_, fun q hq => ?_⟩
  · by_cases hc : t2 = t ∧ i2 = i
    · obtain ⟨rfl, rfl⟩ := hc
      rw [fh_up_s, he]
    · rw [fh_up_n (fun q => hc (hL _ _ _ _ h2 hi q)), hC.1 t2 i2 h2, ho t2 i2 h2 hc]
  · rw [fh_up_n (hq t i hi)]
    exact hC.2 q hq
theorem cs_w_seed {K : Nat → ClassId} {L : Nat → Nat → Nat} {hb h : fh_H} {s : CS} {fs : List Value} (hL : cs_I L) (hC : cs_W K L hb h s) {v : Int32} (hfs : cs_Cell K L s 0 0 = .inr (0, fs)) : cs_W K L hb (fh_up h (L 0 0) (.inr (0, fs.set 3 (.int v)))) (cs_set_seed s v) := by
  refine cs_up hL hC (by decide) ?_ (fun t2 i2 h2 hc => ?_)
  · obtain rfl := (Prod.mk.inj (Sum.inr.inj hfs)).2
    rfl
  · match t2, h2, hc with
    | 0, h2, hc => exact absurd ⟨rfl, Nat.lt_one_iff.mp h2⟩ hc
    | 1, _, _ => rfl
    | 2, _, _ => rfl
    | 3, _, _ => rfl
    | 4, _, _ => rfl
    | 5, _, _ => rfl
    | 6, _, _ => rfl
    | 7, _, _ => rfl
    | 8, _, _ => rfl
    | 9, _, _ => rfl
    | 10, _, _ => rfl
    | 11, _, _ => rfl
    | 12, _, _ => rfl
    | 13, _, _ => rfl
    | 14, _, _ => rfl
    | n + 15, h2, _ => exact absurd h2 (by simp [cs_bd])
theorem cs_w_figs {K : Nat → ClassId} {L : Nat → Nat → Nat} {hb h : fh_H} {s : CS} {fs : List Value} (hL : cs_I L) (hC : cs_W K L hb h s) {v : Int32} (hfs : cs_Cell K L s 0 0 = .inr (0, fs)) : cs_W K L hb (fh_up h (L 0 0) (.inr (0, fs.set 4 (.int v)))) (cs_set_figs s v) := by
  refine cs_up hL hC (by decide) ?_ (fun t2 i2 h2 hc => ?_)
  · obtain rfl := (Prod.mk.inj (Sum.inr.inj hfs)).2
    rfl
  · match t2, h2, hc with
    | 0, h2, hc => exact absurd ⟨rfl, Nat.lt_one_iff.mp h2⟩ hc
    | 1, _, _ => rfl
    | 2, _, _ => rfl
    | 3, _, _ => rfl
    | 4, _, _ => rfl
    | 5, _, _ => rfl
    | 6, _, _ => rfl
    | 7, _, _ => rfl
    | 8, _, _ => rfl
    | 9, _, _ => rfl
    | 10, _, _ => rfl
    | 11, _, _ => rfl
    | 12, _, _ => rfl
    | 13, _, _ => rfl
    | 14, _, _ => rfl
    | n + 15, h2, _ => exact absurd h2 (by simp [cs_bd])
theorem cs_w_psize {K : Nat → ClassId} {L : Nat → Nat → Nat} {hb h : fh_H} {s : CS} {fs : List Value} (hL : cs_I L) (hC : cs_W K L hb h s) {v : Int32} (hfs : cs_Cell K L s 1 0 = .inr (1, fs)) : cs_W K L hb (fh_up h (L 1 0) (.inr (1, fs.set 2 (.int v)))) (cs_set_psize s v) := by
  refine cs_up hL hC (by decide) ?_ (fun t2 i2 h2 hc => ?_)
  · obtain rfl := (Prod.mk.inj (Sum.inr.inj hfs)).2
    rfl
  · match t2, h2, hc with
    | 0, _, _ => rfl
    | 1, h2, hc => exact absurd ⟨rfl, Nat.lt_one_iff.mp h2⟩ hc
    | 2, _, _ => rfl
    | 3, _, _ => rfl
    | 4, _, _ => rfl
    | 5, _, _ => rfl
    | 6, _, _ => rfl
    | 7, _, _ => rfl
    | 8, _, _ => rfl
    | 9, _, _ => rfl
    | 10, _, _ => rfl
    | 11, _, _ => rfl
    | 12, _, _ => rfl
    | 13, _, _ => rfl
    | 14, _, _ => rfl
    | n + 15, h2, _ => exact absurd h2 (by simp [cs_bd])
theorem cs_w_kinds {K : Nat → ClassId} {L : Nat → Nat → Nat} {hb h : fh_H} {s : CS} (hL : cs_I L) (hC : cs_W K L hb h s) {v : Nat → Int32} : cs_W K L hb (fh_up h (L 2 0) (.inl (K 0, 10, .inl v))) (cs_set_kinds s v) := by
  refine cs_up hL hC (by decide) ?_ (fun t2 i2 h2 hc => ?_)
  · rfl
  · match t2, h2, hc with
    | 0, _, _ => rfl
    | 1, _, _ => rfl
    | 2, h2, hc => exact absurd ⟨rfl, Nat.lt_one_iff.mp h2⟩ hc
    | 3, _, _ => rfl
    | 4, _, _ => rfl
    | 5, _, _ => rfl
    | 6, _, _ => rfl
    | 7, _, _ => rfl
    | 8, _, _ => rfl
    | 9, _, _ => rfl
    | 10, _, _ => rfl
    | 11, _, _ => rfl
    | 12, _, _ => rfl
    | 13, _, _ => rfl
    | 14, _, _ => rfl
    | n + 15, h2, _ => exact absurd h2 (by simp [cs_bd])
theorem cs_w_srcs {K : Nat → ClassId} {L : Nat → Nat → Nat} {hb h : fh_H} {s : CS} (hL : cs_I L) (hC : cs_W K L hb h s) {v : Nat → Int32} : cs_W K L hb (fh_up h (L 3 0) (.inl (K 0, 40, .inl v))) (cs_set_srcs s v) := by
  refine cs_up hL hC (by decide) ?_ (fun t2 i2 h2 hc => ?_)
  · rfl
  · match t2, h2, hc with
    | 0, _, _ => rfl
    | 1, _, _ => rfl
    | 2, _, _ => rfl
    | 3, h2, hc => exact absurd ⟨rfl, Nat.lt_one_iff.mp h2⟩ hc
    | 4, _, _ => rfl
    | 5, _, _ => rfl
    | 6, _, _ => rfl
    | 7, _, _ => rfl
    | 8, _, _ => rfl
    | 9, _, _ => rfl
    | 10, _, _ => rfl
    | 11, _, _ => rfl
    | 12, _, _ => rfl
    | 13, _, _ => rfl
    | 14, _, _ => rfl
    | n + 15, h2, _ => exact absurd h2 (by simp [cs_bd])
theorem cs_w_pts {K : Nat → ClassId} {L : Nat → Nat → Nat} {hb h : fh_H} {s : CS} {fs : List Value} (hL : cs_I L) (hC : cs_W K L hb h s) {v : Int32} (hfs : cs_Cell K L s 4 0 = .inr (2, fs)) : cs_W K L hb (fh_up h (L 4 0) (.inr (2, fs.set 7 (.int v)))) (cs_set_pts s v) := by
  refine cs_up hL hC (by decide) ?_ (fun t2 i2 h2 hc => ?_)
  · obtain rfl := (Prod.mk.inj (Sum.inr.inj hfs)).2
    rfl
  · match t2, h2, hc with
    | 0, _, _ => rfl
    | 1, _, _ => rfl
    | 2, _, _ => rfl
    | 3, _, _ => rfl
    | 4, h2, hc => exact absurd ⟨rfl, Nat.lt_one_iff.mp h2⟩ hc
    | 5, _, _ => rfl
    | 6, _, _ => rfl
    | 7, _, _ => rfl
    | 8, _, _ => rfl
    | 9, _, _ => rfl
    | 10, _, _ => rfl
    | 11, _, _ => rfl
    | 12, _, _ => rfl
    | 13, _, _ => rfl
    | 14, _, _ => rfl
    | n + 15, h2, _ => exact absurd h2 (by simp [cs_bd])
theorem cs_w_known {K : Nat → ClassId} {L : Nat → Nat → Nat} {hb h : fh_H} {s : CS} {fs : List Value} (hL : cs_I L) (hC : cs_W K L hb h s) {v : Int32} (hfs : cs_Cell K L s 4 0 = .inr (2, fs)) : cs_W K L hb (fh_up h (L 4 0) (.inr (2, fs.set 8 (.int v)))) (cs_set_known s v) := by
  refine cs_up hL hC (by decide) ?_ (fun t2 i2 h2 hc => ?_)
  · obtain rfl := (Prod.mk.inj (Sum.inr.inj hfs)).2
    rfl
  · match t2, h2, hc with
    | 0, _, _ => rfl
    | 1, _, _ => rfl
    | 2, _, _ => rfl
    | 3, _, _ => rfl
    | 4, h2, hc => exact absurd ⟨rfl, Nat.lt_one_iff.mp h2⟩ hc
    | 5, _, _ => rfl
    | 6, _, _ => rfl
    | 7, _, _ => rfl
    | 8, _, _ => rfl
    | 9, _, _ => rfl
    | 10, _, _ => rfl
    | 11, _, _ => rfl
    | 12, _, _ => rfl
    | 13, _, _ => rfl
    | 14, _, _ => rfl
    | n + 15, h2, _ => exact absurd h2 (by simp [cs_bd])
theorem cs_w_leads {K : Nat → ClassId} {L : Nat → Nat → Nat} {hb h : fh_H} {s : CS} (hL : cs_I L) (hC : cs_W K L hb h s) {v : Nat → Int32} : cs_W K L hb (fh_up h (L 13 0) (.inl (K 0, 16, .inl v))) (cs_set_leads s v) := by
  refine cs_up hL hC (by decide) ?_ (fun t2 i2 h2 hc => ?_)
  · rfl
  · match t2, h2, hc with
    | 0, _, _ => rfl
    | 1, _, _ => rfl
    | 2, _, _ => rfl
    | 3, _, _ => rfl
    | 4, _, _ => rfl
    | 5, _, _ => rfl
    | 6, _, _ => rfl
    | 7, _, _ => rfl
    | 8, _, _ => rfl
    | 9, _, _ => rfl
    | 10, _, _ => rfl
    | 11, _, _ => rfl
    | 12, _, _ => rfl
    | 13, h2, hc => exact absurd ⟨rfl, Nat.lt_one_iff.mp h2⟩ hc
    | 14, _, _ => rfl
    | n + 15, h2, _ => exact absurd h2 (by simp [cs_bd])
theorem cs_w_areas {K : Nat → ClassId} {L : Nat → Nat → Nat} {hb h : fh_H} {s : CS} (hL : cs_I L) (hC : cs_W K L hb h s) {v : Nat → Int64} : cs_W K L hb (fh_up h (L 14 0) (.inl (K 1, 120, .inr (.inl v)))) (cs_set_areas s v) := by
  refine cs_up hL hC (by decide) ?_ (fun t2 i2 h2 hc => ?_)
  · rfl
  · match t2, h2, hc with
    | 0, _, _ => rfl
    | 1, _, _ => rfl
    | 2, _, _ => rfl
    | 3, _, _ => rfl
    | 4, _, _ => rfl
    | 5, _, _ => rfl
    | 6, _, _ => rfl
    | 7, _, _ => rfl
    | 8, _, _ => rfl
    | 9, _, _ => rfl
    | 10, _, _ => rfl
    | 11, _, _ => rfl
    | 12, _, _ => rfl
    | 13, _, _ => rfl
    | 14, h2, hc => exact absurd ⟨rfl, Nat.lt_one_iff.mp h2⟩ hc
    | n + 15, h2, _ => exact absurd h2 (by simp [cs_bd])
theorem cs_w_stand {K : Nat → ClassId} {L : Nat → Nat → Nat} {hb h : fh_H} {s : CS} {fs : List Value} (hL : cs_I L) (hC : cs_W K L hb h s) {i : Nat} (hi : i < 2) {v : Int32} (hfs : cs_Cell K L s 5 i = .inr (3, fs)) : cs_W K L hb (fh_up h (L 5 i) (.inr (3, fs.set 1 (.int v)))) (cs_set_stand s (va_up (cs_stand s) i v)) := by
  refine cs_up hL hC hi ?_ (fun t2 i2 h2 hc => ?_)
  · obtain rfl := (Prod.mk.inj (Sum.inr.inj hfs)).2
    simp [cs_Cell, cs_set_stand, cs_seed, cs_figs, cs_psize, cs_kinds, cs_srcs, cs_pts, cs_known, cs_leads, cs_areas, cs_stand, cs_dsize, cs_divr, cs_invs, cs_fx, cs_fy, cs_made, cs_fallen, cs_rnd, cs_foundX, cs_foundY, cs_items, cs_lsize, va_up]
  · match t2, h2, hc with
    | 0, _, _ => rfl
    | 1, _, _ => rfl
    | 2, _, _ => rfl
    | 3, _, _ => rfl
    | 4, _, _ => rfl
    | 5, h2, hc =>
      have hn : i2 ≠ i := fun q => hc ⟨rfl, q⟩
      simp [cs_Cell, cs_set_stand, cs_seed, cs_figs, cs_psize, cs_kinds, cs_srcs, cs_pts, cs_known, cs_leads, cs_areas, cs_stand, cs_dsize, cs_divr, cs_invs, cs_fx, cs_fy, cs_made, cs_fallen, cs_rnd, cs_foundX, cs_foundY, cs_items, cs_lsize, va_up, hn]
    | 6, _, _ => rfl
    | 7, _, _ => rfl
    | 8, _, _ => rfl
    | 9, _, _ => rfl
    | 10, _, _ => rfl
    | 11, _, _ => rfl
    | 12, _, _ => rfl
    | 13, _, _ => rfl
    | 14, _, _ => rfl
    | n + 15, h2, _ => exact absurd h2 (by simp [cs_bd])
theorem cs_w_dsize {K : Nat → ClassId} {L : Nat → Nat → Nat} {hb h : fh_H} {s : CS} {fs : List Value} (hL : cs_I L) (hC : cs_W K L hb h s) {i : Nat} (hi : i < 2) {v : Int32} (hfs : cs_Cell K L s 5 i = .inr (3, fs)) : cs_W K L hb (fh_up h (L 5 i) (.inr (3, fs.set 2 (.int v)))) (cs_set_dsize s (va_up (cs_dsize s) i v)) := by
  refine cs_up hL hC hi ?_ (fun t2 i2 h2 hc => ?_)
  · obtain rfl := (Prod.mk.inj (Sum.inr.inj hfs)).2
    simp [cs_Cell, cs_set_dsize, cs_seed, cs_figs, cs_psize, cs_kinds, cs_srcs, cs_pts, cs_known, cs_leads, cs_areas, cs_stand, cs_dsize, cs_divr, cs_invs, cs_fx, cs_fy, cs_made, cs_fallen, cs_rnd, cs_foundX, cs_foundY, cs_items, cs_lsize, va_up]
  · match t2, h2, hc with
    | 0, _, _ => rfl
    | 1, _, _ => rfl
    | 2, _, _ => rfl
    | 3, _, _ => rfl
    | 4, _, _ => rfl
    | 5, h2, hc =>
      have hn : i2 ≠ i := fun q => hc ⟨rfl, q⟩
      simp [cs_Cell, cs_set_dsize, cs_seed, cs_figs, cs_psize, cs_kinds, cs_srcs, cs_pts, cs_known, cs_leads, cs_areas, cs_stand, cs_dsize, cs_divr, cs_invs, cs_fx, cs_fy, cs_made, cs_fallen, cs_rnd, cs_foundX, cs_foundY, cs_items, cs_lsize, va_up, hn]
    | 6, _, _ => rfl
    | 7, _, _ => rfl
    | 8, _, _ => rfl
    | 9, _, _ => rfl
    | 10, _, _ => rfl
    | 11, _, _ => rfl
    | 12, _, _ => rfl
    | 13, _, _ => rfl
    | 14, _, _ => rfl
    | n + 15, h2, _ => exact absurd h2 (by simp [cs_bd])
theorem cs_w_divr {K : Nat → ClassId} {L : Nat → Nat → Nat} {hb h : fh_H} {s : CS} {fs : List Value} (hL : cs_I L) (hC : cs_W K L hb h s) {i : Nat} (hi : i < 2) {v : Int64} (hfs : cs_Cell K L s 5 i = .inr (3, fs)) : cs_W K L hb (fh_up h (L 5 i) (.inr (3, fs.set 3 (.long v)))) (cs_set_divr s (va_up (cs_divr s) i v)) := by
  refine cs_up hL hC hi ?_ (fun t2 i2 h2 hc => ?_)
  · obtain rfl := (Prod.mk.inj (Sum.inr.inj hfs)).2
    simp [cs_Cell, cs_set_divr, cs_seed, cs_figs, cs_psize, cs_kinds, cs_srcs, cs_pts, cs_known, cs_leads, cs_areas, cs_stand, cs_dsize, cs_divr, cs_invs, cs_fx, cs_fy, cs_made, cs_fallen, cs_rnd, cs_foundX, cs_foundY, cs_items, cs_lsize, va_up]
  · match t2, h2, hc with
    | 0, _, _ => rfl
    | 1, _, _ => rfl
    | 2, _, _ => rfl
    | 3, _, _ => rfl
    | 4, _, _ => rfl
    | 5, h2, hc =>
      have hn : i2 ≠ i := fun q => hc ⟨rfl, q⟩
      simp [cs_Cell, cs_set_divr, cs_seed, cs_figs, cs_psize, cs_kinds, cs_srcs, cs_pts, cs_known, cs_leads, cs_areas, cs_stand, cs_dsize, cs_divr, cs_invs, cs_fx, cs_fy, cs_made, cs_fallen, cs_rnd, cs_foundX, cs_foundY, cs_items, cs_lsize, va_up, hn]
    | 6, _, _ => rfl
    | 7, _, _ => rfl
    | 8, _, _ => rfl
    | 9, _, _ => rfl
    | 10, _, _ => rfl
    | 11, _, _ => rfl
    | 12, _, _ => rfl
    | 13, _, _ => rfl
    | 14, _, _ => rfl
    | n + 15, h2, _ => exact absurd h2 (by simp [cs_bd])
theorem cs_w_invs {K : Nat → ClassId} {L : Nat → Nat → Nat} {hb h : fh_H} {s : CS} {fs : List Value} (hL : cs_I L) (hC : cs_W K L hb h s) {i : Nat} (hi : i < 2) {v : Int64} (hfs : cs_Cell K L s 5 i = .inr (3, fs)) : cs_W K L hb (fh_up h (L 5 i) (.inr (3, fs.set 4 (.long v)))) (cs_set_invs s (va_up (cs_invs s) i v)) := by
  refine cs_up hL hC hi ?_ (fun t2 i2 h2 hc => ?_)
  · obtain rfl := (Prod.mk.inj (Sum.inr.inj hfs)).2
    simp [cs_Cell, cs_set_invs, cs_seed, cs_figs, cs_psize, cs_kinds, cs_srcs, cs_pts, cs_known, cs_leads, cs_areas, cs_stand, cs_dsize, cs_divr, cs_invs, cs_fx, cs_fy, cs_made, cs_fallen, cs_rnd, cs_foundX, cs_foundY, cs_items, cs_lsize, va_up]
  · match t2, h2, hc with
    | 0, _, _ => rfl
    | 1, _, _ => rfl
    | 2, _, _ => rfl
    | 3, _, _ => rfl
    | 4, _, _ => rfl
    | 5, h2, hc =>
      have hn : i2 ≠ i := fun q => hc ⟨rfl, q⟩
      simp [cs_Cell, cs_set_invs, cs_seed, cs_figs, cs_psize, cs_kinds, cs_srcs, cs_pts, cs_known, cs_leads, cs_areas, cs_stand, cs_dsize, cs_divr, cs_invs, cs_fx, cs_fy, cs_made, cs_fallen, cs_rnd, cs_foundX, cs_foundY, cs_items, cs_lsize, va_up, hn]
    | 6, _, _ => rfl
    | 7, _, _ => rfl
    | 8, _, _ => rfl
    | 9, _, _ => rfl
    | 10, _, _ => rfl
    | 11, _, _ => rfl
    | 12, _, _ => rfl
    | 13, _, _ => rfl
    | 14, _, _ => rfl
    | n + 15, h2, _ => exact absurd h2 (by simp [cs_bd])
theorem cs_w_fx {K : Nat → ClassId} {L : Nat → Nat → Nat} {hb h : fh_H} {s : CS} (hL : cs_I L) (hC : cs_W K L hb h s) {i : Nat} (hi : i < 10) {v : Nat → Int32} : cs_W K L hb (fh_up h (L 8 i) (.inl (K 0, 16, .inl v))) (cs_set_fx s (va_up (cs_fx s) i v)) := by
  refine cs_up hL hC hi ?_ (fun t2 i2 h2 hc => ?_)
  · simp [cs_Cell, cs_set_fx, cs_fx, va_up]
  · match t2, h2, hc with
    | 0, _, _ => rfl
    | 1, _, _ => rfl
    | 2, _, _ => rfl
    | 3, _, _ => rfl
    | 4, _, _ => rfl
    | 5, _, _ => rfl
    | 6, _, _ => rfl
    | 7, _, _ => rfl
    | 8, h2, hc =>
      have hn : i2 ≠ i := fun q => hc ⟨rfl, q⟩
      simp [cs_Cell, cs_set_fx, cs_seed, cs_figs, cs_psize, cs_kinds, cs_srcs, cs_pts, cs_known, cs_leads, cs_areas, cs_stand, cs_dsize, cs_divr, cs_invs, cs_fx, cs_fy, cs_made, cs_fallen, cs_rnd, cs_foundX, cs_foundY, cs_items, cs_lsize, va_up, hn]
    | 9, _, _ => rfl
    | 10, _, _ => rfl
    | 11, _, _ => rfl
    | 12, _, _ => rfl
    | 13, _, _ => rfl
    | 14, _, _ => rfl
    | n + 15, h2, _ => exact absurd h2 (by simp [cs_bd])
theorem cs_w_fy {K : Nat → ClassId} {L : Nat → Nat → Nat} {hb h : fh_H} {s : CS} (hL : cs_I L) (hC : cs_W K L hb h s) {i : Nat} (hi : i < 10) {v : Nat → Int32} : cs_W K L hb (fh_up h (L 9 i) (.inl (K 0, 16, .inl v))) (cs_set_fy s (va_up (cs_fy s) i v)) := by
  refine cs_up hL hC hi ?_ (fun t2 i2 h2 hc => ?_)
  · simp [cs_Cell, cs_set_fy, cs_fy, va_up]
  · match t2, h2, hc with
    | 0, _, _ => rfl
    | 1, _, _ => rfl
    | 2, _, _ => rfl
    | 3, _, _ => rfl
    | 4, _, _ => rfl
    | 5, _, _ => rfl
    | 6, _, _ => rfl
    | 7, _, _ => rfl
    | 8, _, _ => rfl
    | 9, h2, hc =>
      have hn : i2 ≠ i := fun q => hc ⟨rfl, q⟩
      simp [cs_Cell, cs_set_fy, cs_seed, cs_figs, cs_psize, cs_kinds, cs_srcs, cs_pts, cs_known, cs_leads, cs_areas, cs_stand, cs_dsize, cs_divr, cs_invs, cs_fx, cs_fy, cs_made, cs_fallen, cs_rnd, cs_foundX, cs_foundY, cs_items, cs_lsize, va_up, hn]
    | 10, _, _ => rfl
    | 11, _, _ => rfl
    | 12, _, _ => rfl
    | 13, _, _ => rfl
    | 14, _, _ => rfl
    | n + 15, h2, _ => exact absurd h2 (by simp [cs_bd])
theorem cs_w_made {K : Nat → ClassId} {L : Nat → Nat → Nat} {hb h : fh_H} {s : CS} {fs : List Value} (hL : cs_I L) (hC : cs_W K L hb h s) {i : Nat} (hi : i < 10) {v : Int32} (hfs : cs_Cell K L s 7 i = .inr (4, fs)) : cs_W K L hb (fh_up h (L 7 i) (.inr (4, fs.set 2 (.int v)))) (cs_set_made s (va_up (cs_made s) i v)) := by
  refine cs_up hL hC hi ?_ (fun t2 i2 h2 hc => ?_)
  · obtain rfl := (Prod.mk.inj (Sum.inr.inj hfs)).2
    simp [cs_Cell, cs_set_made, cs_seed, cs_figs, cs_psize, cs_kinds, cs_srcs, cs_pts, cs_known, cs_leads, cs_areas, cs_stand, cs_dsize, cs_divr, cs_invs, cs_fx, cs_fy, cs_made, cs_fallen, cs_rnd, cs_foundX, cs_foundY, cs_items, cs_lsize, va_up]
  · match t2, h2, hc with
    | 0, _, _ => rfl
    | 1, _, _ => rfl
    | 2, _, _ => rfl
    | 3, _, _ => rfl
    | 4, _, _ => rfl
    | 5, _, _ => rfl
    | 6, _, _ => rfl
    | 7, h2, hc =>
      have hn : i2 ≠ i := fun q => hc ⟨rfl, q⟩
      simp [cs_Cell, cs_set_made, cs_seed, cs_figs, cs_psize, cs_kinds, cs_srcs, cs_pts, cs_known, cs_leads, cs_areas, cs_stand, cs_dsize, cs_divr, cs_invs, cs_fx, cs_fy, cs_made, cs_fallen, cs_rnd, cs_foundX, cs_foundY, cs_items, cs_lsize, va_up, hn]
    | 8, _, _ => rfl
    | 9, _, _ => rfl
    | 10, _, _ => rfl
    | 11, _, _ => rfl
    | 12, _, _ => rfl
    | 13, _, _ => rfl
    | 14, _, _ => rfl
    | n + 15, h2, _ => exact absurd h2 (by simp [cs_bd])
theorem cs_w_fallen {K : Nat → ClassId} {L : Nat → Nat → Nat} {hb h : fh_H} {s : CS} {fs : List Value} (hL : cs_I L) (hC : cs_W K L hb h s) {i : Nat} (hi : i < 10) {v : Int32} (hfs : cs_Cell K L s 7 i = .inr (4, fs)) : cs_W K L hb (fh_up h (L 7 i) (.inr (4, fs.set 3 (.int v)))) (cs_set_fallen s (va_up (cs_fallen s) i v)) := by
  refine cs_up hL hC hi ?_ (fun t2 i2 h2 hc => ?_)
  · obtain rfl := (Prod.mk.inj (Sum.inr.inj hfs)).2
    simp [cs_Cell, cs_set_fallen, cs_seed, cs_figs, cs_psize, cs_kinds, cs_srcs, cs_pts, cs_known, cs_leads, cs_areas, cs_stand, cs_dsize, cs_divr, cs_invs, cs_fx, cs_fy, cs_made, cs_fallen, cs_rnd, cs_foundX, cs_foundY, cs_items, cs_lsize, va_up]
  · match t2, h2, hc with
    | 0, _, _ => rfl
    | 1, _, _ => rfl
    | 2, _, _ => rfl
    | 3, _, _ => rfl
    | 4, _, _ => rfl
    | 5, _, _ => rfl
    | 6, _, _ => rfl
    | 7, h2, hc =>
      have hn : i2 ≠ i := fun q => hc ⟨rfl, q⟩
      simp [cs_Cell, cs_set_fallen, cs_seed, cs_figs, cs_psize, cs_kinds, cs_srcs, cs_pts, cs_known, cs_leads, cs_areas, cs_stand, cs_dsize, cs_divr, cs_invs, cs_fx, cs_fy, cs_made, cs_fallen, cs_rnd, cs_foundX, cs_foundY, cs_items, cs_lsize, va_up, hn]
    | 8, _, _ => rfl
    | 9, _, _ => rfl
    | 10, _, _ => rfl
    | 11, _, _ => rfl
    | 12, _, _ => rfl
    | 13, _, _ => rfl
    | 14, _, _ => rfl
    | n + 15, h2, _ => exact absurd h2 (by simp [cs_bd])
theorem cs_w_rnd {K : Nat → ClassId} {L : Nat → Nat → Nat} {hb h : fh_H} {s : CS} {fs : List Value} (hL : cs_I L) (hC : cs_W K L hb h s) {i : Nat} (hi : i < 10) {v : Int64} (hfs : cs_Cell K L s 7 i = .inr (4, fs)) : cs_W K L hb (fh_up h (L 7 i) (.inr (4, fs.set 4 (.long v)))) (cs_set_rnd s (va_up (cs_rnd s) i v)) := by
  refine cs_up hL hC hi ?_ (fun t2 i2 h2 hc => ?_)
  · obtain rfl := (Prod.mk.inj (Sum.inr.inj hfs)).2
    simp [cs_Cell, cs_set_rnd, cs_seed, cs_figs, cs_psize, cs_kinds, cs_srcs, cs_pts, cs_known, cs_leads, cs_areas, cs_stand, cs_dsize, cs_divr, cs_invs, cs_fx, cs_fy, cs_made, cs_fallen, cs_rnd, cs_foundX, cs_foundY, cs_items, cs_lsize, va_up]
  · match t2, h2, hc with
    | 0, _, _ => rfl
    | 1, _, _ => rfl
    | 2, _, _ => rfl
    | 3, _, _ => rfl
    | 4, _, _ => rfl
    | 5, _, _ => rfl
    | 6, _, _ => rfl
    | 7, h2, hc =>
      have hn : i2 ≠ i := fun q => hc ⟨rfl, q⟩
      simp [cs_Cell, cs_set_rnd, cs_seed, cs_figs, cs_psize, cs_kinds, cs_srcs, cs_pts, cs_known, cs_leads, cs_areas, cs_stand, cs_dsize, cs_divr, cs_invs, cs_fx, cs_fy, cs_made, cs_fallen, cs_rnd, cs_foundX, cs_foundY, cs_items, cs_lsize, va_up, hn]
    | 8, _, _ => rfl
    | 9, _, _ => rfl
    | 10, _, _ => rfl
    | 11, _, _ => rfl
    | 12, _, _ => rfl
    | 13, _, _ => rfl
    | 14, _, _ => rfl
    | n + 15, h2, _ => exact absurd h2 (by simp [cs_bd])
theorem cs_w_foundX {K : Nat → ClassId} {L : Nat → Nat → Nat} {hb h : fh_H} {s : CS} {fs : List Value} (hL : cs_I L) (hC : cs_W K L hb h s) {i : Nat} (hi : i < 10) {v : Int32} (hfs : cs_Cell K L s 7 i = .inr (4, fs)) : cs_W K L hb (fh_up h (L 7 i) (.inr (4, fs.set 5 (.int v)))) (cs_set_foundX s (va_up (cs_foundX s) i v)) := by
  refine cs_up hL hC hi ?_ (fun t2 i2 h2 hc => ?_)
  · obtain rfl := (Prod.mk.inj (Sum.inr.inj hfs)).2
    simp [cs_Cell, cs_set_foundX, cs_seed, cs_figs, cs_psize, cs_kinds, cs_srcs, cs_pts, cs_known, cs_leads, cs_areas, cs_stand, cs_dsize, cs_divr, cs_invs, cs_fx, cs_fy, cs_made, cs_fallen, cs_rnd, cs_foundX, cs_foundY, cs_items, cs_lsize, va_up]
  · match t2, h2, hc with
    | 0, _, _ => rfl
    | 1, _, _ => rfl
    | 2, _, _ => rfl
    | 3, _, _ => rfl
    | 4, _, _ => rfl
    | 5, _, _ => rfl
    | 6, _, _ => rfl
    | 7, h2, hc =>
      have hn : i2 ≠ i := fun q => hc ⟨rfl, q⟩
      simp [cs_Cell, cs_set_foundX, cs_seed, cs_figs, cs_psize, cs_kinds, cs_srcs, cs_pts, cs_known, cs_leads, cs_areas, cs_stand, cs_dsize, cs_divr, cs_invs, cs_fx, cs_fy, cs_made, cs_fallen, cs_rnd, cs_foundX, cs_foundY, cs_items, cs_lsize, va_up, hn]
    | 8, _, _ => rfl
    | 9, _, _ => rfl
    | 10, _, _ => rfl
    | 11, _, _ => rfl
    | 12, _, _ => rfl
    | 13, _, _ => rfl
    | 14, _, _ => rfl
    | n + 15, h2, _ => exact absurd h2 (by simp [cs_bd])
theorem cs_w_foundY {K : Nat → ClassId} {L : Nat → Nat → Nat} {hb h : fh_H} {s : CS} {fs : List Value} (hL : cs_I L) (hC : cs_W K L hb h s) {i : Nat} (hi : i < 10) {v : Int32} (hfs : cs_Cell K L s 7 i = .inr (4, fs)) : cs_W K L hb (fh_up h (L 7 i) (.inr (4, fs.set 6 (.int v)))) (cs_set_foundY s (va_up (cs_foundY s) i v)) := by
  refine cs_up hL hC hi ?_ (fun t2 i2 h2 hc => ?_)
  · obtain rfl := (Prod.mk.inj (Sum.inr.inj hfs)).2
    simp [cs_Cell, cs_set_foundY, cs_seed, cs_figs, cs_psize, cs_kinds, cs_srcs, cs_pts, cs_known, cs_leads, cs_areas, cs_stand, cs_dsize, cs_divr, cs_invs, cs_fx, cs_fy, cs_made, cs_fallen, cs_rnd, cs_foundX, cs_foundY, cs_items, cs_lsize, va_up]
  · match t2, h2, hc with
    | 0, _, _ => rfl
    | 1, _, _ => rfl
    | 2, _, _ => rfl
    | 3, _, _ => rfl
    | 4, _, _ => rfl
    | 5, _, _ => rfl
    | 6, _, _ => rfl
    | 7, h2, hc =>
      have hn : i2 ≠ i := fun q => hc ⟨rfl, q⟩
      simp [cs_Cell, cs_set_foundY, cs_seed, cs_figs, cs_psize, cs_kinds, cs_srcs, cs_pts, cs_known, cs_leads, cs_areas, cs_stand, cs_dsize, cs_divr, cs_invs, cs_fx, cs_fy, cs_made, cs_fallen, cs_rnd, cs_foundX, cs_foundY, cs_items, cs_lsize, va_up, hn]
    | 8, _, _ => rfl
    | 9, _, _ => rfl
    | 10, _, _ => rfl
    | 11, _, _ => rfl
    | 12, _, _ => rfl
    | 13, _, _ => rfl
    | 14, _, _ => rfl
    | n + 15, h2, _ => exact absurd h2 (by simp [cs_bd])
theorem cs_w_items {K : Nat → ClassId} {L : Nat → Nat → Nat} {hb h : fh_H} {s : CS} (hL : cs_I L) (hC : cs_W K L hb h s) {i : Nat} (hi : i < 12) {v : Nat → Int32} : cs_W K L hb (fh_up h (L 11 i) (.inl (K 0, (il_len i), .inl v))) (cs_set_items s (va_up (cs_items s) i v)) := by
  refine cs_up hL hC hi ?_ (fun t2 i2 h2 hc => ?_)
  · simp [cs_Cell, cs_set_items, cs_items, va_up]
  · match t2, h2, hc with
    | 0, _, _ => rfl
    | 1, _, _ => rfl
    | 2, _, _ => rfl
    | 3, _, _ => rfl
    | 4, _, _ => rfl
    | 5, _, _ => rfl
    | 6, _, _ => rfl
    | 7, _, _ => rfl
    | 8, _, _ => rfl
    | 9, _, _ => rfl
    | 10, _, _ => rfl
    | 11, h2, hc =>
      have hn : i2 ≠ i := fun q => hc ⟨rfl, q⟩
      simp [cs_Cell, cs_set_items, cs_seed, cs_figs, cs_psize, cs_kinds, cs_srcs, cs_pts, cs_known, cs_leads, cs_areas, cs_stand, cs_dsize, cs_divr, cs_invs, cs_fx, cs_fy, cs_made, cs_fallen, cs_rnd, cs_foundX, cs_foundY, cs_items, cs_lsize, va_up, hn]
    | 12, _, _ => rfl
    | 13, _, _ => rfl
    | 14, _, _ => rfl
    | n + 15, h2, _ => exact absurd h2 (by simp [cs_bd])
theorem cs_w_lsize {K : Nat → ClassId} {L : Nat → Nat → Nat} {hb h : fh_H} {s : CS} {fs : List Value} (hL : cs_I L) (hC : cs_W K L hb h s) {i : Nat} (hi : i < 12) {v : Int32} (hfs : cs_Cell K L s 10 i = .inr (5, fs)) : cs_W K L hb (fh_up h (L 10 i) (.inr (5, fs.set 1 (.int v)))) (cs_set_lsize s (va_up (cs_lsize s) i v)) := by
  refine cs_up hL hC hi ?_ (fun t2 i2 h2 hc => ?_)
  · obtain rfl := (Prod.mk.inj (Sum.inr.inj hfs)).2
    simp [cs_Cell, cs_set_lsize, cs_seed, cs_figs, cs_psize, cs_kinds, cs_srcs, cs_pts, cs_known, cs_leads, cs_areas, cs_stand, cs_dsize, cs_divr, cs_invs, cs_fx, cs_fy, cs_made, cs_fallen, cs_rnd, cs_foundX, cs_foundY, cs_items, cs_lsize, va_up]
  · match t2, h2, hc with
    | 0, _, _ => rfl
    | 1, _, _ => rfl
    | 2, _, _ => rfl
    | 3, _, _ => rfl
    | 4, _, _ => rfl
    | 5, _, _ => rfl
    | 6, _, _ => rfl
    | 7, _, _ => rfl
    | 8, _, _ => rfl
    | 9, _, _ => rfl
    | 10, h2, hc =>
      have hn : i2 ≠ i := fun q => hc ⟨rfl, q⟩
      simp [cs_Cell, cs_set_lsize, cs_seed, cs_figs, cs_psize, cs_kinds, cs_srcs, cs_pts, cs_known, cs_leads, cs_areas, cs_stand, cs_dsize, cs_divr, cs_invs, cs_fx, cs_fy, cs_made, cs_fallen, cs_rnd, cs_foundX, cs_foundY, cs_items, cs_lsize, va_up, hn]
    | 11, _, _ => rfl
    | 12, _, _ => rfl
    | 13, _, _ => rfl
    | 14, _, _ => rfl
    | n + 15, h2, _ => exact absurd h2 (by simp [cs_bd])
theorem ms_w_many {K : Nat → ClassId} {L : Nat → Nat → Nat} {hb h : fh_H} {s : MS} {fs : List Value} (hL : ms_I L) (hC : ms_W K L hb h s) {v : Int32} (hfs : ms_Cell K L s 0 0 = .inr (6, fs)) : ms_W K L hb (fh_up h (L 0 0) (.inr (6, fs.set 0 (.int v)))) (ms_set_many s v) := by
  refine ms_up hL hC (by decide) ?_ (fun t2 i2 h2 hc => ?_)
  · obtain rfl := (Prod.mk.inj (Sum.inr.inj hfs)).2
    rfl
  · match t2, h2, hc with
    | 0, h2, hc => exact absurd ⟨rfl, Nat.lt_one_iff.mp h2⟩ hc
    | 1, _, _ => rfl
    | 2, _, _ => rfl
    | 3, _, _ => rfl
    | 4, _, _ => rfl
    | 5, _, _ => rfl
    | 6, _, _ => rfl
    | 7, _, _ => rfl
    | 8, _, _ => rfl
    | 9, _, _ => rfl
    | n + 10, h2, _ => exact absurd h2 (by simp [ms_bd])
theorem ms_w_kindOf {K : Nat → ClassId} {L : Nat → Nat → Nat} {hb h : fh_H} {s : MS} (hL : ms_I L) (hC : ms_W K L hb h s) {v : Nat → Int32} : ms_W K L hb (fh_up h (L 1 0) (.inl (K 0, 10, .inl v))) (ms_set_kindOf s v) := by
  refine ms_up hL hC (by decide) ?_ (fun t2 i2 h2 hc => ?_)
  · rfl
  · match t2, h2, hc with
    | 0, _, _ => rfl
    | 1, h2, hc => exact absurd ⟨rfl, Nat.lt_one_iff.mp h2⟩ hc
    | 2, _, _ => rfl
    | 3, _, _ => rfl
    | 4, _, _ => rfl
    | 5, _, _ => rfl
    | 6, _, _ => rfl
    | 7, _, _ => rfl
    | 8, _, _ => rfl
    | 9, _, _ => rfl
    | n + 10, h2, _ => exact absurd h2 (by simp [ms_bd])
theorem ms_w_need {K : Nat → ClassId} {L : Nat → Nat → Nat} {hb h : fh_H} {s : MS} (hL : ms_I L) (hC : ms_W K L hb h s) {v : Nat → Int32} : ms_W K L hb (fh_up h (L 2 0) (.inl (K 0, 40, .inl v))) (ms_set_need s v) := by
  refine ms_up hL hC (by decide) ?_ (fun t2 i2 h2 hc => ?_)
  · rfl
  · match t2, h2, hc with
    | 0, _, _ => rfl
    | 1, _, _ => rfl
    | 2, h2, hc => exact absurd ⟨rfl, Nat.lt_one_iff.mp h2⟩ hc
    | 3, _, _ => rfl
    | 4, _, _ => rfl
    | 5, _, _ => rfl
    | 6, _, _ => rfl
    | 7, _, _ => rfl
    | 8, _, _ => rfl
    | 9, _, _ => rfl
    | n + 10, h2, _ => exact absurd h2 (by simp [ms_bd])
theorem ms_w_seed {K : Nat → ClassId} {L : Nat → Nat → Nat} {hb h : fh_H} {s : MS} {fs : List Value} (hL : ms_I L) (hC : ms_W K L hb h s) {v : Int32} (hfs : ms_Cell K L s 0 0 = .inr (6, fs)) : ms_W K L hb (fh_up h (L 0 0) (.inr (6, fs.set 3 (.int v)))) (ms_set_seed s v) := by
  refine ms_up hL hC (by decide) ?_ (fun t2 i2 h2 hc => ?_)
  · obtain rfl := (Prod.mk.inj (Sum.inr.inj hfs)).2
    rfl
  · match t2, h2, hc with
    | 0, h2, hc => exact absurd ⟨rfl, Nat.lt_one_iff.mp h2⟩ hc
    | 1, _, _ => rfl
    | 2, _, _ => rfl
    | 3, _, _ => rfl
    | 4, _, _ => rfl
    | 5, _, _ => rfl
    | 6, _, _ => rfl
    | 7, _, _ => rfl
    | 8, _, _ => rfl
    | 9, _, _ => rfl
    | n + 10, h2, _ => exact absurd h2 (by simp [ms_bd])
theorem ms_w_figs {K : Nat → ClassId} {L : Nat → Nat → Nat} {hb h : fh_H} {s : MS} {fs : List Value} (hL : ms_I L) (hC : ms_W K L hb h s) {v : Int32} (hfs : ms_Cell K L s 0 0 = .inr (6, fs)) : ms_W K L hb (fh_up h (L 0 0) (.inr (6, fs.set 4 (.int v)))) (ms_set_figs s v) := by
  refine ms_up hL hC (by decide) ?_ (fun t2 i2 h2 hc => ?_)
  · obtain rfl := (Prod.mk.inj (Sum.inr.inj hfs)).2
    rfl
  · match t2, h2, hc with
    | 0, h2, hc => exact absurd ⟨rfl, Nat.lt_one_iff.mp h2⟩ hc
    | 1, _, _ => rfl
    | 2, _, _ => rfl
    | 3, _, _ => rfl
    | 4, _, _ => rfl
    | 5, _, _ => rfl
    | 6, _, _ => rfl
    | 7, _, _ => rfl
    | 8, _, _ => rfl
    | 9, _, _ => rfl
    | n + 10, h2, _ => exact absurd h2 (by simp [ms_bd])
theorem ms_w_xs {K : Nat → ClassId} {L : Nat → Nat → Nat} {hb h : fh_H} {s : MS} (hL : ms_I L) (hC : ms_W K L hb h s) {v : Nat → Int64} : ms_W K L hb (fh_up h (L 3 0) (.inl (K 1, 50, .inr (.inl v)))) (ms_set_xs s v) := by
  refine ms_up hL hC (by decide) ?_ (fun t2 i2 h2 hc => ?_)
  · rfl
  · match t2, h2, hc with
    | 0, _, _ => rfl
    | 1, _, _ => rfl
    | 2, _, _ => rfl
    | 3, h2, hc => exact absurd ⟨rfl, Nat.lt_one_iff.mp h2⟩ hc
    | 4, _, _ => rfl
    | 5, _, _ => rfl
    | 6, _, _ => rfl
    | 7, _, _ => rfl
    | 8, _, _ => rfl
    | 9, _, _ => rfl
    | n + 10, h2, _ => exact absurd h2 (by simp [ms_bd])
theorem ms_w_ys {K : Nat → ClassId} {L : Nat → Nat → Nat} {hb h : fh_H} {s : MS} (hL : ms_I L) (hC : ms_W K L hb h s) {v : Nat → Int64} : ms_W K L hb (fh_up h (L 4 0) (.inl (K 1, 50, .inr (.inl v)))) (ms_set_ys s v) := by
  refine ms_up hL hC (by decide) ?_ (fun t2 i2 h2 hc => ?_)
  · rfl
  · match t2, h2, hc with
    | 0, _, _ => rfl
    | 1, _, _ => rfl
    | 2, _, _ => rfl
    | 3, _, _ => rfl
    | 4, h2, hc => exact absurd ⟨rfl, Nat.lt_one_iff.mp h2⟩ hc
    | 5, _, _ => rfl
    | 6, _, _ => rfl
    | 7, _, _ => rfl
    | 8, _, _ => rfl
    | 9, _, _ => rfl
    | n + 10, h2, _ => exact absurd h2 (by simp [ms_bd])
theorem ms_w_fallsAt {K : Nat → ClassId} {L : Nat → Nat → Nat} {hb h : fh_H} {s : MS} (hL : ms_I L) (hC : ms_W K L hb h s) {v : Nat → Int32} : ms_W K L hb (fh_up h (L 5 0) (.inl (K 0, 5, .inl v))) (ms_set_fallsAt s v) := by
  refine ms_up hL hC (by decide) ?_ (fun t2 i2 h2 hc => ?_)
  · rfl
  · match t2, h2, hc with
    | 0, _, _ => rfl
    | 1, _, _ => rfl
    | 2, _, _ => rfl
    | 3, _, _ => rfl
    | 4, _, _ => rfl
    | 5, h2, hc => exact absurd ⟨rfl, Nat.lt_one_iff.mp h2⟩ hc
    | 6, _, _ => rfl
    | 7, _, _ => rfl
    | 8, _, _ => rfl
    | 9, _, _ => rfl
    | n + 10, h2, _ => exact absurd h2 (by simp [ms_bd])
theorem ms_w_figure {K : Nat → ClassId} {L : Nat → Nat → Nat} {hb h : fh_H} {s : MS} {fs : List Value} (hL : ms_I L) (hC : ms_W K L hb h s) {v : Int32} (hfs : ms_Cell K L s 0 0 = .inr (6, fs)) : ms_W K L hb (fh_up h (L 0 0) (.inr (6, fs.set 8 (.int v)))) (ms_set_figure s v) := by
  refine ms_up hL hC (by decide) ?_ (fun t2 i2 h2 hc => ?_)
  · obtain rfl := (Prod.mk.inj (Sum.inr.inj hfs)).2
    rfl
  · match t2, h2, hc with
    | 0, h2, hc => exact absurd ⟨rfl, Nat.lt_one_iff.mp h2⟩ hc
    | 1, _, _ => rfl
    | 2, _, _ => rfl
    | 3, _, _ => rfl
    | 4, _, _ => rfl
    | 5, _, _ => rfl
    | 6, _, _ => rfl
    | 7, _, _ => rfl
    | 8, _, _ => rfl
    | 9, _, _ => rfl
    | n + 10, h2, _ => exact absurd h2 (by simp [ms_bd])
theorem ms_w_rnd {K : Nat → ClassId} {L : Nat → Nat → Nat} {hb h : fh_H} {s : MS} {fs : List Value} (hL : ms_I L) (hC : ms_W K L hb h s) {v : Int64} (hfs : ms_Cell K L s 0 0 = .inr (6, fs)) : ms_W K L hb (fh_up h (L 0 0) (.inr (6, fs.set 9 (.long v)))) (ms_set_rnd s v) := by
  refine ms_up hL hC (by decide) ?_ (fun t2 i2 h2 hc => ?_)
  · obtain rfl := (Prod.mk.inj (Sum.inr.inj hfs)).2
    rfl
  · match t2, h2, hc with
    | 0, h2, hc => exact absurd ⟨rfl, Nat.lt_one_iff.mp h2⟩ hc
    | 1, _, _ => rfl
    | 2, _, _ => rfl
    | 3, _, _ => rfl
    | 4, _, _ => rfl
    | 5, _, _ => rfl
    | 6, _, _ => rfl
    | 7, _, _ => rfl
    | 8, _, _ => rfl
    | 9, _, _ => rfl
    | n + 10, h2, _ => exact absurd h2 (by simp [ms_bd])
theorem ms_w_px {K : Nat → ClassId} {L : Nat → Nat → Nat} {hb h : fh_H} {s : MS} {fs : List Value} (hL : ms_I L) (hC : ms_W K L hb h s) {v : Int64} (hfs : ms_Cell K L s 0 0 = .inr (6, fs)) : ms_W K L hb (fh_up h (L 0 0) (.inr (6, fs.set 10 (.long v)))) (ms_set_px s v) := by
  refine ms_up hL hC (by decide) ?_ (fun t2 i2 h2 hc => ?_)
  · obtain rfl := (Prod.mk.inj (Sum.inr.inj hfs)).2
    rfl
  · match t2, h2, hc with
    | 0, h2, hc => exact absurd ⟨rfl, Nat.lt_one_iff.mp h2⟩ hc
    | 1, _, _ => rfl
    | 2, _, _ => rfl
    | 3, _, _ => rfl
    | 4, _, _ => rfl
    | 5, _, _ => rfl
    | 6, _, _ => rfl
    | 7, _, _ => rfl
    | 8, _, _ => rfl
    | 9, _, _ => rfl
    | n + 10, h2, _ => exact absurd h2 (by simp [ms_bd])
theorem ms_w_py {K : Nat → ClassId} {L : Nat → Nat → Nat} {hb h : fh_H} {s : MS} {fs : List Value} (hL : ms_I L) (hC : ms_W K L hb h s) {v : Int64} (hfs : ms_Cell K L s 0 0 = .inr (6, fs)) : ms_W K L hb (fh_up h (L 0 0) (.inr (6, fs.set 11 (.long v)))) (ms_set_py s v) := by
  refine ms_up hL hC (by decide) ?_ (fun t2 i2 h2 hc => ?_)
  · obtain rfl := (Prod.mk.inj (Sum.inr.inj hfs)).2
    rfl
  · match t2, h2, hc with
    | 0, h2, hc => exact absurd ⟨rfl, Nat.lt_one_iff.mp h2⟩ hc
    | 1, _, _ => rfl
    | 2, _, _ => rfl
    | 3, _, _ => rfl
    | 4, _, _ => rfl
    | 5, _, _ => rfl
    | 6, _, _ => rfl
    | 7, _, _ => rfl
    | 8, _, _ => rfl
    | 9, _, _ => rfl
    | n + 10, h2, _ => exact absurd h2 (by simp [ms_bd])
theorem ms_w_isFallen {K : Nat → ClassId} {L : Nat → Nat → Nat} {hb h : fh_H} {s : MS} {fs : List Value} (hL : ms_I L) (hC : ms_W K L hb h s) {v : Int32} (hfs : ms_Cell K L s 0 0 = .inr (6, fs)) : ms_W K L hb (fh_up h (L 0 0) (.inr (6, fs.set 12 (.int v)))) (ms_set_isFallen s v) := by
  refine ms_up hL hC (by decide) ?_ (fun t2 i2 h2 hc => ?_)
  · obtain rfl := (Prod.mk.inj (Sum.inr.inj hfs)).2
    rfl
  · match t2, h2, hc with
    | 0, h2, hc => exact absurd ⟨rfl, Nat.lt_one_iff.mp h2⟩ hc
    | 1, _, _ => rfl
    | 2, _, _ => rfl
    | 3, _, _ => rfl
    | 4, _, _ => rfl
    | 5, _, _ => rfl
    | 6, _, _ => rfl
    | 7, _, _ => rfl
    | 8, _, _ => rfl
    | 9, _, _ => rfl
    | n + 10, h2, _ => exact absurd h2 (by simp [ms_bd])
theorem ms_w_row {K : Nat → ClassId} {L : Nat → Nat → Nat} {hb h : fh_H} {s : MS} (hL : ms_I L) (hC : ms_W K L hb h s) {v : Nat → Int32} : ms_W K L hb (fh_up h (L 6 0) (.inl (K 0, 6, .inl v))) (ms_set_row s v) := by
  refine ms_up hL hC (by decide) ?_ (fun t2 i2 h2 hc => ?_)
  · rfl
  · match t2, h2, hc with
    | 0, _, _ => rfl
    | 1, _, _ => rfl
    | 2, _, _ => rfl
    | 3, _, _ => rfl
    | 4, _, _ => rfl
    | 5, _, _ => rfl
    | 6, h2, hc => exact absurd ⟨rfl, Nat.lt_one_iff.mp h2⟩ hc
    | 7, _, _ => rfl
    | 8, _, _ => rfl
    | 9, _, _ => rfl
    | n + 10, h2, _ => exact absurd h2 (by simp [ms_bd])
theorem ms_w_foundM {K : Nat → ClassId} {L : Nat → Nat → Nat} {hb h : fh_H} {s : MS} {fs : List Value} (hL : ms_I L) (hC : ms_W K L hb h s) {v : Int32} (hfs : ms_Cell K L s 0 0 = .inr (6, fs)) : ms_W K L hb (fh_up h (L 0 0) (.inr (6, fs.set 14 (.int v)))) (ms_set_foundM s v) := by
  refine ms_up hL hC (by decide) ?_ (fun t2 i2 h2 hc => ?_)
  · obtain rfl := (Prod.mk.inj (Sum.inr.inj hfs)).2
    rfl
  · match t2, h2, hc with
    | 0, h2, hc => exact absurd ⟨rfl, Nat.lt_one_iff.mp h2⟩ hc
    | 1, _, _ => rfl
    | 2, _, _ => rfl
    | 3, _, _ => rfl
    | 4, _, _ => rfl
    | 5, _, _ => rfl
    | 6, _, _ => rfl
    | 7, _, _ => rfl
    | 8, _, _ => rfl
    | 9, _, _ => rfl
    | n + 10, h2, _ => exact absurd h2 (by simp [ms_bd])
theorem ms_w_foundN {K : Nat → ClassId} {L : Nat → Nat → Nat} {hb h : fh_H} {s : MS} {fs : List Value} (hL : ms_I L) (hC : ms_W K L hb h s) {v : Int32} (hfs : ms_Cell K L s 0 0 = .inr (6, fs)) : ms_W K L hb (fh_up h (L 0 0) (.inr (6, fs.set 15 (.int v)))) (ms_set_foundN s v) := by
  refine ms_up hL hC (by decide) ?_ (fun t2 i2 h2 hc => ?_)
  · obtain rfl := (Prod.mk.inj (Sum.inr.inj hfs)).2
    rfl
  · match t2, h2, hc with
    | 0, h2, hc => exact absurd ⟨rfl, Nat.lt_one_iff.mp h2⟩ hc
    | 1, _, _ => rfl
    | 2, _, _ => rfl
    | 3, _, _ => rfl
    | 4, _, _ => rfl
    | 5, _, _ => rfl
    | 6, _, _ => rfl
    | 7, _, _ => rfl
    | 8, _, _ => rfl
    | 9, _, _ => rfl
    | n + 10, h2, _ => exact absurd h2 (by simp [ms_bd])
theorem ms_w_same {K : Nat → ClassId} {L : Nat → Nat → Nat} {hb h : fh_H} {s : MS} (hL : ms_I L) (hC : ms_W K L hb h s) {v : Nat → Int32} : ms_W K L hb (fh_up h (L 7 0) (.inl (K 2, 100, .inl v))) (ms_set_same s v) := by
  refine ms_up hL hC (by decide) ?_ (fun t2 i2 h2 hc => ?_)
  · rfl
  · match t2, h2, hc with
    | 0, _, _ => rfl
    | 1, _, _ => rfl
    | 2, _, _ => rfl
    | 3, _, _ => rfl
    | 4, _, _ => rfl
    | 5, _, _ => rfl
    | 6, _, _ => rfl
    | 7, h2, hc => exact absurd ⟨rfl, Nat.lt_one_iff.mp h2⟩ hc
    | 8, _, _ => rfl
    | 9, _, _ => rfl
    | n + 10, h2, _ => exact absurd h2 (by simp [ms_bd])
theorem ms_w_seen {K : Nat → ClassId} {L : Nat → Nat → Nat} {hb h : fh_H} {s : MS} {fs : List Value} (hL : ms_I L) (hC : ms_W K L hb h s) {v : Int32} (hfs : ms_Cell K L s 0 0 = .inr (6, fs)) : ms_W K L hb (fh_up h (L 0 0) (.inr (6, fs.set 17 (.int v)))) (ms_set_seen s v) := by
  refine ms_up hL hC (by decide) ?_ (fun t2 i2 h2 hc => ?_)
  · obtain rfl := (Prod.mk.inj (Sum.inr.inj hfs)).2
    rfl
  · match t2, h2, hc with
    | 0, h2, hc => exact absurd ⟨rfl, Nat.lt_one_iff.mp h2⟩ hc
    | 1, _, _ => rfl
    | 2, _, _ => rfl
    | 3, _, _ => rfl
    | 4, _, _ => rfl
    | 5, _, _ => rfl
    | 6, _, _ => rfl
    | 7, _, _ => rfl
    | 8, _, _ => rfl
    | 9, _, _ => rfl
    | n + 10, h2, _ => exact absurd h2 (by simp [ms_bd])
theorem ms_w_wanted {K : Nat → ClassId} {L : Nat → Nat → Nat} {hb h : fh_H} {s : MS} {fs : List Value} (hL : ms_I L) (hC : ms_W K L hb h s) {v : Int32} (hfs : ms_Cell K L s 0 0 = .inr (6, fs)) : ms_W K L hb (fh_up h (L 0 0) (.inr (6, fs.set 18 (.int v)))) (ms_set_wanted s v) := by
  refine ms_up hL hC (by decide) ?_ (fun t2 i2 h2 hc => ?_)
  · obtain rfl := (Prod.mk.inj (Sum.inr.inj hfs)).2
    rfl
  · match t2, h2, hc with
    | 0, h2, hc => exact absurd ⟨rfl, Nat.lt_one_iff.mp h2⟩ hc
    | 1, _, _ => rfl
    | 2, _, _ => rfl
    | 3, _, _ => rfl
    | 4, _, _ => rfl
    | 5, _, _ => rfl
    | 6, _, _ => rfl
    | 7, _, _ => rfl
    | 8, _, _ => rfl
    | 9, _, _ => rfl
    | n + 10, h2, _ => exact absurd h2 (by simp [ms_bd])
theorem ms_w_found {K : Nat → ClassId} {L : Nat → Nat → Nat} {hb h : fh_H} {s : MS} (hL : ms_I L) (hC : ms_W K L hb h s) {v : Nat → Int32} : ms_W K L hb (fh_up h (L 8 0) (.inl (K 0, 6, .inl v))) (ms_set_found s v) := by
  refine ms_up hL hC (by decide) ?_ (fun t2 i2 h2 hc => ?_)
  · rfl
  · match t2, h2, hc with
    | 0, _, _ => rfl
    | 1, _, _ => rfl
    | 2, _, _ => rfl
    | 3, _, _ => rfl
    | 4, _, _ => rfl
    | 5, _, _ => rfl
    | 6, _, _ => rfl
    | 7, _, _ => rfl
    | 8, h2, hc => exact absurd ⟨rfl, Nat.lt_one_iff.mp h2⟩ hc
    | 9, _, _ => rfl
    | n + 10, h2, _ => exact absurd h2 (by simp [ms_bd])
theorem ms_w_isFound {K : Nat → ClassId} {L : Nat → Nat → Nat} {hb h : fh_H} {s : MS} {fs : List Value} (hL : ms_I L) (hC : ms_W K L hb h s) {v : Int32} (hfs : ms_Cell K L s 0 0 = .inr (6, fs)) : ms_W K L hb (fh_up h (L 0 0) (.inr (6, fs.set 20 (.int v)))) (ms_set_isFound s v) := by
  refine ms_up hL hC (by decide) ?_ (fun t2 i2 h2 hc => ?_)
  · obtain rfl := (Prod.mk.inj (Sum.inr.inj hfs)).2
    rfl
  · match t2, h2, hc with
    | 0, h2, hc => exact absurd ⟨rfl, Nat.lt_one_iff.mp h2⟩ hc
    | 1, _, _ => rfl
    | 2, _, _ => rfl
    | 3, _, _ => rfl
    | 4, _, _ => rfl
    | 5, _, _ => rfl
    | 6, _, _ => rfl
    | 7, _, _ => rfl
    | 8, _, _ => rfl
    | 9, _, _ => rfl
    | n + 10, h2, _ => exact absurd h2 (by simp [ms_bd])
theorem ms_w_isSet {K : Nat → ClassId} {L : Nat → Nat → Nat} {hb h : fh_H} {s : MS} (hL : ms_I L) (hC : ms_W K L hb h s) {v : Nat → Int32} : ms_W K L hb (fh_up h (L 9 0) (.inl (K 2, 1024, .inl v))) (ms_set_isSet s v) := by
  refine ms_up hL hC (by decide) ?_ (fun t2 i2 h2 hc => ?_)
  · rfl
  · match t2, h2, hc with
    | 0, _, _ => rfl
    | 1, _, _ => rfl
    | 2, _, _ => rfl
    | 3, _, _ => rfl
    | 4, _, _ => rfl
    | 5, _, _ => rfl
    | 6, _, _ => rfl
    | 7, _, _ => rfl
    | 8, _, _ => rfl
    | 9, h2, hc => exact absurd ⟨rfl, Nat.lt_one_iff.mp h2⟩ hc
    | n + 10, h2, _ => exact absurd h2 (by simp [ms_bd])
