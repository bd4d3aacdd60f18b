abbrev nVl : Type := (Nat → Int32) × (Nat → Int32) × (Nat → Int32) × (Nat → Int32) × (Nat → Int32) × Int32 × Int32 × Int32
def g_Vl_kinds (x : nVl) : Nat → Int32 := x.1
def s_Vl_kinds (x : nVl) (y : Nat → Int32) : nVl := (y, x.2)
def g_Vl_minutes (x : nVl) : Nat → Int32 := x.2.1
def s_Vl_minutes (x : nVl) (y : Nat → Int32) : nVl := (x.1, y, x.2.2)
def g_Vl_drifts (x : nVl) : Nat → Int32 := x.2.2.1
def s_Vl_drifts (x : nVl) (y : Nat → Int32) : nVl := (x.1, x.2.1, y, x.2.2.2)
def g_Vl_miles (x : nVl) : Nat → Int32 := x.2.2.2.1
def s_Vl_miles (x : nVl) (y : Nat → Int32) : nVl := (x.1, x.2.1, x.2.2.1, y, x.2.2.2.2)
def g_Vl_shifts (x : nVl) : Nat → Int32 := x.2.2.2.2.1
def s_Vl_shifts (x : nVl) (y : Nat → Int32) : nVl := (x.1, x.2.1, x.2.2.1, x.2.2.2.1, y, x.2.2.2.2.2)
def g_Vl_villages (x : nVl) : Int32 := x.2.2.2.2.2.1
def s_Vl_villages (x : nVl) (y : Int32) : nVl := (x.1, x.2.1, x.2.2.1, x.2.2.2.1, x.2.2.2.2.1, y, x.2.2.2.2.2.2)
def g_Vl_day (x : nVl) : Int32 := x.2.2.2.2.2.2.1
def s_Vl_day (x : nVl) (y : Int32) : nVl := (x.1, x.2.1, x.2.2.1, x.2.2.2.1, x.2.2.2.2.1, x.2.2.2.2.2.1, y, x.2.2.2.2.2.2.2)
def g_Vl_draw (x : nVl) : Int32 := x.2.2.2.2.2.2.2
def s_Vl_draw (x : nVl) (y : Int32) : nVl := (x.1, x.2.1, x.2.2.1, x.2.2.2.1, x.2.2.2.2.1, x.2.2.2.2.2.1, x.2.2.2.2.2.2.1, y)
abbrev nHi : Type := Int32 × Int32
def g_Hi_next (x : nHi) : Int32 := x.1
def s_Hi_next (x : nHi) (y : Int32) : nHi := (y, x.2)
def g_Hi_known (x : nHi) : Int32 := x.2
def s_Hi_known (x : nHi) (y : Int32) : nHi := (x.1, y)
abbrev nCa : Type := (Nat → Int32) × (Nat → Int32) × Int32 × Int32
def g_Ca_order (x : nCa) : Nat → Int32 := x.1
def s_Ca_order (x : nCa) (y : Nat → Int32) : nCa := (y, x.2)
def g_Ca_bestOrder (x : nCa) : Nat → Int32 := x.2.1
def s_Ca_bestOrder (x : nCa) (y : Nat → Int32) : nCa := (x.1, y, x.2.2)
def g_Ca_bestTime (x : nCa) : Int32 := x.2.2.1
def s_Ca_bestTime (x : nCa) (y : Int32) : nCa := (x.1, x.2.1, y, x.2.2.2)
def g_Ca_minutesAMile (x : nCa) : Int32 := x.2.2.2
def s_Ca_minutesAMile (x : nCa) (y : Int32) : nCa := (x.1, x.2.1, x.2.2.1, y)
abbrev nTa : Type := (Nat → Int32) × Int32 × Int32 × Int32
def g_Ta_letters (x : nTa) : Nat → Int32 := x.1
def s_Ta_letters (x : nTa) (y : Nat → Int32) : nTa := (y, x.2)
def g_Ta_length (x : nTa) : Int32 := x.2.1
def s_Ta_length (x : nTa) (y : Int32) : nTa := (x.1, y, x.2.2)
def g_Ta_place (x : nTa) : Int32 := x.2.2.1
def s_Ta_place (x : nTa) (y : Int32) : nTa := (x.1, x.2.1, y, x.2.2.2)
def g_Ta_fault (x : nTa) : Int32 := x.2.2.2
def s_Ta_fault (x : nTa) (y : Int32) : nTa := (x.1, x.2.1, x.2.2.1, y)
abbrev nSh : Type := (Nat → Int64) × Int32 × Int32
def g_Sh_items (x : nSh) : Nat → Int64 := x.1
def s_Sh_items (x : nSh) (y : Nat → Int64) : nSh := (y, x.2)
def g_Sh_lane (x : nSh) : Int32 := x.2.1
def s_Sh_lane (x : nSh) (y : Int32) : nSh := (x.1, y, x.2.2)
def g_Sh_length (x : nSh) : Int32 := x.2.2
def s_Sh_length (x : nSh) (y : Int32) : nSh := (x.1, x.2.1, y)
abbrev nMd : Type := (Nat → Int32) × (Nat → Int32) × (Nat → Int32) × Int32 × Int32 × Int32 × (Nat → Int32) × (Nat → Int32) × Int32 × (Nat → Int32) × Int32 × (Nat → Int32) × (Nat → Int32) × (Nat → Int32) × (Nat → Int32) × Int32 × Int32 × (Nat → Int32) × (Nat → Int32) × (Nat → Int64) × (Nat → Int64)
def g_Md_now (x : nMd) : Nat → Int32 := x.1
def s_Md_now (x : nMd) (y : Nat → Int32) : nMd := (y, x.2)
def g_Md_later (x : nMd) : Nat → Int32 := x.2.1
def s_Md_later (x : nMd) (y : Nat → Int32) : nMd := (x.1, y, x.2.2)
def g_Md_tape (x : nMd) : Nat → Int32 := x.2.2.1
def s_Md_tape (x : nMd) (y : Nat → Int32) : nMd := (x.1, x.2.1, y, x.2.2.2)
def g_Md_typed (x : nMd) : Int32 := x.2.2.2.1
def s_Md_typed (x : nMd) (y : Int32) : nMd := (x.1, x.2.1, x.2.2.1, y, x.2.2.2.2)
def g_Md_place (x : nMd) : Int32 := x.2.2.2.2.1
def s_Md_place (x : nMd) (y : Int32) : nMd := (x.1, x.2.1, x.2.2.1, x.2.2.2.1, y, x.2.2.2.2.2)
def g_Md_isFault (x : nMd) : Int32 := x.2.2.2.2.2.1
def s_Md_isFault (x : nMd) (y : Int32) : nMd := (x.1, x.2.1, x.2.2.1, x.2.2.2.1, x.2.2.2.2.1, y, x.2.2.2.2.2.2)
def g_Md_read (x : nMd) : Nat → Int32 := x.2.2.2.2.2.2.1
def s_Md_read (x : nMd) (y : Nat → Int32) : nMd := (x.1, x.2.1, x.2.2.1, x.2.2.2.1, x.2.2.2.2.1, x.2.2.2.2.2.1, y, x.2.2.2.2.2.2.2)
def g_Md_undone (x : nMd) : Nat → Int32 := x.2.2.2.2.2.2.2.1
def s_Md_undone (x : nMd) (y : Nat → Int32) : nMd := (x.1, x.2.1, x.2.2.1, x.2.2.2.1, x.2.2.2.2.1, x.2.2.2.2.2.1, x.2.2.2.2.2.2.1, y, x.2.2.2.2.2.2.2.2)
def g_Md_undos (x : nMd) : Int32 := x.2.2.2.2.2.2.2.2.1
def s_Md_undos (x : nMd) (y : Int32) : nMd := (x.1, x.2.1, x.2.2.1, x.2.2.2.1, x.2.2.2.2.1, x.2.2.2.2.2.1, x.2.2.2.2.2.2.1, x.2.2.2.2.2.2.2.1, y, x.2.2.2.2.2.2.2.2.2)
def g_Md_aside (x : nMd) : Nat → Int32 := x.2.2.2.2.2.2.2.2.2.1
def s_Md_aside (x : nMd) (y : Nat → Int32) : nMd := (x.1, x.2.1, x.2.2.1, x.2.2.2.1, x.2.2.2.2.1, x.2.2.2.2.2.1, x.2.2.2.2.2.2.1, x.2.2.2.2.2.2.2.1, x.2.2.2.2.2.2.2.2.1, y, x.2.2.2.2.2.2.2.2.2.2)
def g_Md_together (x : nMd) : Int32 := x.2.2.2.2.2.2.2.2.2.2.1
def s_Md_together (x : nMd) (y : Int32) : nMd := (x.1, x.2.1, x.2.2.1, x.2.2.2.1, x.2.2.2.2.1, x.2.2.2.2.2.1, x.2.2.2.2.2.2.1, x.2.2.2.2.2.2.2.1, x.2.2.2.2.2.2.2.2.1, x.2.2.2.2.2.2.2.2.2.1, y, x.2.2.2.2.2.2.2.2.2.2.2)
def g_Md_by (x : nMd) : Nat → Int32 := x.2.2.2.2.2.2.2.2.2.2.2.1
def s_Md_by (x : nMd) (y : Nat → Int32) : nMd := (x.1, x.2.1, x.2.2.1, x.2.2.2.1, x.2.2.2.2.1, x.2.2.2.2.2.1, x.2.2.2.2.2.2.1, x.2.2.2.2.2.2.2.1, x.2.2.2.2.2.2.2.2.1, x.2.2.2.2.2.2.2.2.2.1, x.2.2.2.2.2.2.2.2.2.2.1, y, x.2.2.2.2.2.2.2.2.2.2.2.2)
def g_Md_best (x : nMd) : Nat → Int32 := x.2.2.2.2.2.2.2.2.2.2.2.2.1
def s_Md_best (x : nMd) (y : Nat → Int32) : nMd := (x.1, x.2.1, x.2.2.1, x.2.2.2.1, x.2.2.2.2.1, x.2.2.2.2.2.1, x.2.2.2.2.2.2.1, x.2.2.2.2.2.2.2.1, x.2.2.2.2.2.2.2.2.1, x.2.2.2.2.2.2.2.2.2.1, x.2.2.2.2.2.2.2.2.2.2.1, x.2.2.2.2.2.2.2.2.2.2.2.1, y, x.2.2.2.2.2.2.2.2.2.2.2.2.2)
def g_Md_order (x : nMd) : Nat → Int32 := x.2.2.2.2.2.2.2.2.2.2.2.2.2.1
def s_Md_order (x : nMd) (y : Nat → Int32) : nMd := (x.1, x.2.1, x.2.2.1, x.2.2.2.1, x.2.2.2.2.1, x.2.2.2.2.2.1, x.2.2.2.2.2.2.1, x.2.2.2.2.2.2.2.1, x.2.2.2.2.2.2.2.2.1, x.2.2.2.2.2.2.2.2.2.1, x.2.2.2.2.2.2.2.2.2.2.1, x.2.2.2.2.2.2.2.2.2.2.2.1, x.2.2.2.2.2.2.2.2.2.2.2.2.1, y, x.2.2.2.2.2.2.2.2.2.2.2.2.2.2)
def g_Md_kept (x : nMd) : Nat → Int32 := x.2.2.2.2.2.2.2.2.2.2.2.2.2.2.1
def s_Md_kept (x : nMd) (y : Nat → Int32) : nMd := (x.1, x.2.1, x.2.2.1, x.2.2.2.1, x.2.2.2.2.1, x.2.2.2.2.2.1, x.2.2.2.2.2.2.1, x.2.2.2.2.2.2.2.1, x.2.2.2.2.2.2.2.2.1, x.2.2.2.2.2.2.2.2.2.1, x.2.2.2.2.2.2.2.2.2.2.1, x.2.2.2.2.2.2.2.2.2.2.2.1, x.2.2.2.2.2.2.2.2.2.2.2.2.1, x.2.2.2.2.2.2.2.2.2.2.2.2.2.1, y, x.2.2.2.2.2.2.2.2.2.2.2.2.2.2.2)
def g_Md_keptUndos (x : nMd) : Int32 := x.2.2.2.2.2.2.2.2.2.2.2.2.2.2.2.1
def s_Md_keptUndos (x : nMd) (y : Int32) : nMd := (x.1, x.2.1, x.2.2.1, x.2.2.2.1, x.2.2.2.2.1, x.2.2.2.2.2.1, x.2.2.2.2.2.2.1, x.2.2.2.2.2.2.2.1, x.2.2.2.2.2.2.2.2.1, x.2.2.2.2.2.2.2.2.2.1, x.2.2.2.2.2.2.2.2.2.2.1, x.2.2.2.2.2.2.2.2.2.2.2.1, x.2.2.2.2.2.2.2.2.2.2.2.2.1, x.2.2.2.2.2.2.2.2.2.2.2.2.2.1, x.2.2.2.2.2.2.2.2.2.2.2.2.2.2.1, y, x.2.2.2.2.2.2.2.2.2.2.2.2.2.2.2.2)
def g_Md_isKept (x : nMd) : Int32 := x.2.2.2.2.2.2.2.2.2.2.2.2.2.2.2.2.1
def s_Md_isKept (x : nMd) (y : Int32) : nMd := (x.1, x.2.1, x.2.2.1, x.2.2.2.1, x.2.2.2.2.1, x.2.2.2.2.2.1, x.2.2.2.2.2.2.1, x.2.2.2.2.2.2.2.1, x.2.2.2.2.2.2.2.2.1, x.2.2.2.2.2.2.2.2.2.1, x.2.2.2.2.2.2.2.2.2.2.1, x.2.2.2.2.2.2.2.2.2.2.2.1, x.2.2.2.2.2.2.2.2.2.2.2.2.1, x.2.2.2.2.2.2.2.2.2.2.2.2.2.1, x.2.2.2.2.2.2.2.2.2.2.2.2.2.2.1, x.2.2.2.2.2.2.2.2.2.2.2.2.2.2.2.1, y, x.2.2.2.2.2.2.2.2.2.2.2.2.2.2.2.2.2)
def g_Md_lanes (x : nMd) : Nat → Int32 := x.2.2.2.2.2.2.2.2.2.2.2.2.2.2.2.2.2.1
def s_Md_lanes (x : nMd) (y : Nat → Int32) : nMd := (x.1, x.2.1, x.2.2.1, x.2.2.2.1, x.2.2.2.2.1, x.2.2.2.2.2.1, x.2.2.2.2.2.2.1, x.2.2.2.2.2.2.2.1, x.2.2.2.2.2.2.2.2.1, x.2.2.2.2.2.2.2.2.2.1, x.2.2.2.2.2.2.2.2.2.2.1, x.2.2.2.2.2.2.2.2.2.2.2.1, x.2.2.2.2.2.2.2.2.2.2.2.2.1, x.2.2.2.2.2.2.2.2.2.2.2.2.2.1, x.2.2.2.2.2.2.2.2.2.2.2.2.2.2.1, x.2.2.2.2.2.2.2.2.2.2.2.2.2.2.2.1, x.2.2.2.2.2.2.2.2.2.2.2.2.2.2.2.2.1, y, x.2.2.2.2.2.2.2.2.2.2.2.2.2.2.2.2.2.2)
def g_Md_sizes (x : nMd) : Nat → Int32 := x.2.2.2.2.2.2.2.2.2.2.2.2.2.2.2.2.2.2.1
def s_Md_sizes (x : nMd) (y : Nat → Int32) : nMd := (x.1, x.2.1, x.2.2.1, x.2.2.2.1, x.2.2.2.2.1, x.2.2.2.2.2.1, x.2.2.2.2.2.2.1, x.2.2.2.2.2.2.2.1, x.2.2.2.2.2.2.2.2.1, x.2.2.2.2.2.2.2.2.2.1, x.2.2.2.2.2.2.2.2.2.2.1, x.2.2.2.2.2.2.2.2.2.2.2.1, x.2.2.2.2.2.2.2.2.2.2.2.2.1, x.2.2.2.2.2.2.2.2.2.2.2.2.2.1, x.2.2.2.2.2.2.2.2.2.2.2.2.2.2.1, x.2.2.2.2.2.2.2.2.2.2.2.2.2.2.2.1, x.2.2.2.2.2.2.2.2.2.2.2.2.2.2.2.2.1, x.2.2.2.2.2.2.2.2.2.2.2.2.2.2.2.2.2.1, y, x.2.2.2.2.2.2.2.2.2.2.2.2.2.2.2.2.2.2.2)
def g_Md_items (x : nMd) : Nat → Int64 := x.2.2.2.2.2.2.2.2.2.2.2.2.2.2.2.2.2.2.2.1
def s_Md_items (x : nMd) (y : Nat → Int64) : nMd := (x.1, x.2.1, x.2.2.1, x.2.2.2.1, x.2.2.2.2.1, x.2.2.2.2.2.1, x.2.2.2.2.2.2.1, x.2.2.2.2.2.2.2.1, x.2.2.2.2.2.2.2.2.1, x.2.2.2.2.2.2.2.2.2.1, x.2.2.2.2.2.2.2.2.2.2.1, x.2.2.2.2.2.2.2.2.2.2.2.1, x.2.2.2.2.2.2.2.2.2.2.2.2.1, x.2.2.2.2.2.2.2.2.2.2.2.2.2.1, x.2.2.2.2.2.2.2.2.2.2.2.2.2.2.1, x.2.2.2.2.2.2.2.2.2.2.2.2.2.2.2.1, x.2.2.2.2.2.2.2.2.2.2.2.2.2.2.2.2.1, x.2.2.2.2.2.2.2.2.2.2.2.2.2.2.2.2.2.1, x.2.2.2.2.2.2.2.2.2.2.2.2.2.2.2.2.2.2.1, y, x.2.2.2.2.2.2.2.2.2.2.2.2.2.2.2.2.2.2.2.2)
def g_Md_moved (x : nMd) : Nat → Int64 := x.2.2.2.2.2.2.2.2.2.2.2.2.2.2.2.2.2.2.2.2
def s_Md_moved (x : nMd) (y : Nat → Int64) : nMd := (x.1, x.2.1, x.2.2.1, x.2.2.2.1, x.2.2.2.2.1, x.2.2.2.2.2.1, x.2.2.2.2.2.2.1, x.2.2.2.2.2.2.2.1, x.2.2.2.2.2.2.2.2.1, x.2.2.2.2.2.2.2.2.2.1, x.2.2.2.2.2.2.2.2.2.2.1, x.2.2.2.2.2.2.2.2.2.2.2.1, x.2.2.2.2.2.2.2.2.2.2.2.2.1, x.2.2.2.2.2.2.2.2.2.2.2.2.2.1, x.2.2.2.2.2.2.2.2.2.2.2.2.2.2.1, x.2.2.2.2.2.2.2.2.2.2.2.2.2.2.2.1, x.2.2.2.2.2.2.2.2.2.2.2.2.2.2.2.2.1, x.2.2.2.2.2.2.2.2.2.2.2.2.2.2.2.2.2.1, x.2.2.2.2.2.2.2.2.2.2.2.2.2.2.2.2.2.2.1, x.2.2.2.2.2.2.2.2.2.2.2.2.2.2.2.2.2.2.2.1, y)
abbrev nSe : Type := (Nat → Int32) × (Nat → Int32) × Int32
def g_Se_shifts (x : nSe) : Nat → Int32 := x.1
def s_Se_shifts (x : nSe) (y : Nat → Int32) : nSe := (y, x.2)
def g_Se_bestShifts (x : nSe) : Nat → Int32 := x.2.1
def s_Se_bestShifts (x : nSe) (y : Nat → Int32) : nSe := (x.1, y, x.2.2)
def g_Se_bestTotal (x : nSe) : Int32 := x.2.2
def s_Se_bestTotal (x : nSe) (y : Int32) : nSe := (x.1, x.2.1, y)
abbrev nCs : Type := (Nat → nVl) × (Nat → nHi) × Int32 × nSe × nCa × nTa × (Nat → nSh)
def g_Cs_V (x : nCs) : Nat → nVl := x.1
def s_Cs_V (x : nCs) (y : Nat → nVl) : nCs := (y, x.2)
def g_Cs_H (x : nCs) : Nat → nHi := x.2.1
def s_Cs_H (x : nCs) (y : Nat → nHi) : nCs := (x.1, y, x.2.2)
def g_Cs_im (x : nCs) : Int32 := x.2.2.1
def s_Cs_im (x : nCs) (y : Int32) : nCs := (x.1, x.2.1, y, x.2.2.2)
def g_Cs_se (x : nCs) : nSe := x.2.2.2.1
def s_Cs_se (x : nCs) (y : nSe) : nCs := (x.1, x.2.1, x.2.2.1, y, x.2.2.2.2)
def g_Cs_ca (x : nCs) : nCa := x.2.2.2.2.1
def s_Cs_ca (x : nCs) (y : nCa) : nCs := (x.1, x.2.1, x.2.2.1, x.2.2.2.1, y, x.2.2.2.2.2)
def g_Cs_ta (x : nCs) : nTa := x.2.2.2.2.2.1
def s_Cs_ta (x : nCs) (y : nTa) : nCs := (x.1, x.2.1, x.2.2.1, x.2.2.2.1, x.2.2.2.2.1, y, x.2.2.2.2.2.2)
def g_Cs_sh (x : nCs) : Nat → nSh := x.2.2.2.2.2.2
def s_Cs_sh (x : nCs) (y : Nat → nSh) : nCs := (x.1, x.2.1, x.2.2.1, x.2.2.2.1, x.2.2.2.2.1, x.2.2.2.2.2.1, y)
abbrev nG : Type := nCs × nMd
def gC (σ : nG) : nCs := σ.1
def sC (σ : nG) (c : nCs) : nG := (c, σ.2)
def gM (σ : nG) : nMd := σ.2
def sM (σ : nG) (m : nMd) : nG := (σ.1, m)
def cV (c : nCs) (v : Nat) : nVl := g_Cs_V c v
def cVs (c : nCs) (v : Nat) (x : nVl) : nCs := s_Cs_V c (va_up (g_Cs_V c) v x)
def cH (c : nCs) (v : Nat) : nHi := g_Cs_H c v
def cHs (c : nCs) (v : Nat) (x : nHi) : nCs := s_Cs_H c (va_up (g_Cs_H c) v x)
def cS (c : nCs) (v : Nat) : nSh := g_Cs_sh c v
def cSs (c : nCs) (v : Nat) (x : nSh) : nCs := s_Cs_sh c (va_up (g_Cs_sh c) v x)
def gV (σ : nG) (v : Nat) : nVl := cV σ.1 v
def sV (σ : nG) (v : Nat) (x : nVl) : nG := (cVs σ.1 v x, σ.2)
def gH (σ : nG) (v : Nat) : nHi := cH σ.1 v
def sH (σ : nG) (v : Nat) (x : nHi) : nG := (cHs σ.1 v x, σ.2)
def gSh (σ : nG) (v : Nat) : nSh := cS σ.1 v
def sSh (σ : nG) (v : Nat) (x : nSh) : nG := (cSs σ.1 v x, σ.2)
def gIm (σ : nG) : Int32 := g_Cs_im σ.1
def sIm (σ : nG) (x : Int32) : nG := (s_Cs_im σ.1 x, σ.2)
def gSe (σ : nG) : nSe := g_Cs_se σ.1
def sSe (σ : nG) (x : nSe) : nG := (s_Cs_se σ.1 x, σ.2)
def gCa (σ : nG) : nCa := g_Cs_ca σ.1
def sCa (σ : nG) (x : nCa) : nG := (s_Cs_ca σ.1 x, σ.2)
def gTa (σ : nG) : nTa := g_Cs_ta σ.1
def sTa (σ : nG) (x : nTa) : nG := (s_Cs_ta σ.1 x, σ.2)
theorem up_eta {α : Type} (f : Nat → α) (k : Nat) : va_up f k (f k) = f := by
  funext j; by_cases h : j = k
  · rw [h, va_up_self]
  · rw [va_up_ne _ _ h]
theorem gsV (σ : nG) (v : Nat) (x : nVl) : gV (sV σ v x) v = x := va_up_self _ _ _
theorem gnV (σ : nG) {v w : Nat} (x : nVl) (h : w ≠ v) : gV (sV σ v x) w = gV σ w := va_up_ne _ _ h
theorem ssV (σ : nG) (v : Nat) (x y : nVl) : sV (sV σ v x) v y = sV σ v y := by
  show ((va_up (va_up (g_Cs_V σ.1) v x) v y, σ.1.2), σ.2) = _
  rw [bx_uu]; rfl
theorem esV (σ : nG) (v : Nat) : sV σ v (gV σ v) = σ := by
  show ((va_up (g_Cs_V σ.1) v (g_Cs_V σ.1 v), σ.1.2), σ.2) = σ
  rw [up_eta]; rfl
theorem gsS (σ : nG) (v : Nat) (x : nSh) : gSh (sSh σ v x) v = x := va_up_self _ _ _
theorem gnS (σ : nG) {v w : Nat} (x : nSh) (h : w ≠ v) : gSh (sSh σ v x) w = gSh σ w := va_up_ne _ _ h
theorem ssS (σ : nG) (v : Nat) (x y : nSh) : sSh (sSh σ v x) v y = sSh σ v y := by
  show (s_Cs_sh σ.1 (va_up (va_up (g_Cs_sh σ.1) v x) v y), σ.2) = _
  rw [bx_uu]; rfl
theorem esS (σ : nG) (v : Nat) : sSh σ v (gSh σ v) = σ := by
  show (s_Cs_sh σ.1 (va_up (g_Cs_sh σ.1) v (g_Cs_sh σ.1 v)), σ.2) = σ
  rw [up_eta]; rfl
theorem gsH (σ : nG) (v : Nat) (x : nHi) : gH (sH σ v x) v = x := va_up_self _ _ _
theorem gnH (σ : nG) {v w : Nat} (x : nHi) (h : w ≠ v) : gH (sH σ v x) w = gH σ w := va_up_ne _ _ h
def nn_vc (cy : Nat → ClassId) (ad : Nat → Nat) (v : Nat) (x : nVl) (k : Nat) : va_E := match k with
  | 0 => .inr (5, [.ref (ad (6*v+1)), .ref (ad (6*v+2)), .ref (ad (6*v+3)), .ref (ad (6*v+4)), .ref (ad (6*v+5)), .int (g_Vl_villages x), .int (g_Vl_day x), .int (g_Vl_draw x)])
  | 1 => .inl (cy 0, 6, .inl (g_Vl_kinds x))
  | 2 => .inl (cy 0, 6, .inl (g_Vl_minutes x))
  | 3 => .inl (cy 0, 6, .inl (g_Vl_drifts x))
  | 4 => .inl (cy 0, 6, .inl (g_Vl_miles x))
  | _ => .inl (cy 0, 6, .inl (g_Vl_shifts x))
def nn_hc (cy : Nat → ClassId) (ad : Nat → Nat) (h : Nat) (x : nHi) (k : Nat) : va_E := match k with
  | 0 => .inr (1, [.ref (ad (115+2*h)), .int (g_Hi_next x), .int (g_Hi_known x)])
  | _ => .inl (cy 4, 8, .inr (.inr (.inr (.inr (fun j => some (ad (6*(3+8*h+j))))))))
def nn_sc (cy : Nat → ClassId) (ad : Nat → Nat) (j : Nat) (x : nSh) (k : Nat) : va_E := match k with
  | 0 => .inr (3, [.ref (ad (129+2*j)), .int (g_Sh_lane x), .int (g_Sh_length x)])
  | _ => .inl (cy 2, 24, .inr (.inl (g_Sh_items x)))
def nn_oc (cy : Nat → ClassId) (ad : Nat → Nat) (σ : nG) (k : Nat) : va_E := match k with
  | 0 => .inr (6, [.ref (ad 0), .ref (ad 114), .ref (ad 6), .ref (ad 116), .int (gIm σ), .ref (ad 12), .ref (ad 119), .ref (ad 122), .ref (ad 125), .ref (ad 127)])
  | 1 => .inr (2, [.ref (ad 120), .ref (ad 121), .int (g_Se_bestTotal (gSe σ))])
  | 2 => .inl (cy 0, 6, .inl (g_Se_shifts (gSe σ)))
  | 3 => .inl (cy 0, 6, .inl (g_Se_bestShifts (gSe σ)))
  | 4 => .inr (0, [.ref (ad 123), .ref (ad 124), .int (g_Ca_bestTime (gCa σ)), .int (g_Ca_minutesAMile (gCa σ))])
  | 5 => .inl (cy 0, 6, .inl (g_Ca_order (gCa σ)))
  | 6 => .inl (cy 0, 6, .inl (g_Ca_bestOrder (gCa σ)))
  | 7 => .inr (4, [.ref (ad 126), .int (g_Ta_length (gTa σ)), .int (g_Ta_place (gTa σ)), .int (g_Ta_fault (gTa σ))])
  | 8 => .inl (cy 1, 60, .inl (g_Ta_letters (gTa σ)))
  | _ => .inl (cy 3, 4, .inr (.inr (.inr (.inr (fun j => some (ad (128+2*j)))))))
def nn_mc (cy : Nat → ClassId) (ad : Nat → Nat) (m : nMd) (k : Nat) : va_E := match k with
  | 0 => .inr (7, [.ref (ad 137), .ref (ad 138), .ref (ad 139), .int (g_Md_typed m), .int (g_Md_place m), .int (g_Md_isFault m), .ref (ad 140), .ref (ad 141), .int (g_Md_undos m), .ref (ad 142), .int (g_Md_together m), .ref (ad 143), .ref (ad 144), .ref (ad 145), .ref (ad 146), .int (g_Md_keptUndos m), .int (g_Md_isKept m), .ref (ad 147), .ref (ad 148), .ref (ad 149), .ref (ad 150)])
  | 1 => .inl (cy 0, 27, .inl (g_Md_now m))
  | 2 => .inl (cy 0, 6, .inl (g_Md_later m))
  | 3 => .inl (cy 0, 60, .inl (g_Md_tape m))
  | 4 => .inl (cy 0, 24, .inl (g_Md_read m))
  | 5 => .inl (cy 0, 216, .inl (g_Md_undone m))
  | 6 => .inl (cy 0, 27, .inl (g_Md_aside m))
  | 7 => .inl (cy 0, 6, .inl (g_Md_by m))
  | 8 => .inl (cy 0, 6, .inl (g_Md_best m))
  | 9 => .inl (cy 0, 6, .inl (g_Md_order m))
  | 10 => .inl (cy 0, 243, .inl (g_Md_kept m))
  | 11 => .inl (cy 0, 4, .inl (g_Md_lanes m))
  | 12 => .inl (cy 0, 4, .inl (g_Md_sizes m))
  | 13 => .inl (cy 2, 96, .inr (.inl (g_Md_items m)))
  | _ => .inl (cy 2, 24, .inr (.inl (g_Md_moved m)))
def nn_ce (cy : Nat → ClassId) (ad : Nat → Nat) (σ : nG) (i : Nat) : va_E := if i < 114 then nn_vc cy ad (i / 6) (gV σ (i / 6)) (i % 6) else if i < 118 then nn_hc cy ad ((i - 114) / 2) (gH σ ((i - 114) / 2)) ((i - 114) % 2) else if i < 128 then nn_oc cy ad σ (i - 118) else if i < 136 then nn_sc cy ad ((i - 128) / 2) (gSh σ ((i - 128) / 2)) ((i - 128) % 2) else nn_mc cy ad (gM σ) (i - 136)
def nn_w (cy : Nat → ClassId) (ad : Nat → Nat) (σ : nG) : va_W := (List.range 151).map (fun i => (ad i, nn_ce cy ad σ i))
theorem nn_at {cy : Nat → ClassId} {ad : Nat → Nat} {σ : nG} {i : Nat} {e : va_E} (hi : i < 151) (he : nn_ce cy ad σ i = e) : (nn_w cy ad σ)[i]? = some (ad i, e) := by
  unfold nn_w
  rw [List.getElem?_map, List.getElem?_range hi, ← he]; rfl
theorem nn_len (cy : Nat → ClassId) (ad : Nat → Nat) (σ : nG) : (nn_w cy ad σ).length = 151 := by simp [nn_w]
def nn_U (cy : Nat → ClassId) (ad : Nat → Nat) (τ τ' : nG) (i : Nat) (e : va_E) : Prop := nn_ce cy ad τ' i = e ∧ ∀ j, j < 151 → j ≠ i → nn_ce cy ad τ' j = nn_ce cy ad τ j
theorem nn_set {cy : Nat → ClassId} {ad : Nat → Nat} {τ τ' : nG} {i : Nat} {e : va_E} (hi : i < 151) (h : nn_U cy ad τ τ' i e) : (nn_w cy ad τ).set i (ad i, e) = nn_w cy ad τ' := by
  apply List.ext_getElem?
  intro j
  by_cases hj : j < 151
  · rw [nn_at hj rfl]
    by_cases hji : j = i
    · rw [hji, List.getElem?_set_self (by rw [nn_len]; exact hi), h.1]
    · rw [List.getElem?_set_ne (Ne.symm hji), nn_at hj rfl, h.2 j hj hji]
  · rw [List.getElem?_eq_none (by rw [List.length_set, nn_len]; omega), List.getElem?_eq_none (by rw [nn_len]; omega)]
theorem ce_V {cy : Nat → ClassId} {ad : Nat → Nat} {σ : nG} {v k : Nat} (hv : v < 19) (hk : k < 6) : nn_ce cy ad σ (6*v+k) = nn_vc cy ad v (gV σ v) k := by
  have h1 : (6*v+k)/6 = v := by omega
  have h2 : (6*v+k)%6 = k := by omega
  unfold nn_ce
  rw [if_pos (by omega), h1, h2]
theorem ce_H {cy : Nat → ClassId} {ad : Nat → Nat} {σ : nG} {v k : Nat} (hv : v < 2) (hk : k < 2) : nn_ce cy ad σ (114+2*v+k) = nn_hc cy ad v (gH σ v) k := by
  have h1 : (114+2*v+k-114)/2 = v := by omega
  have h2 : (114+2*v+k-114)%2 = k := by omega
  unfold nn_ce
  rw [if_neg (by omega), if_pos (by omega), h1, h2]
theorem ce_O {cy : Nat → ClassId} {ad : Nat → Nat} {σ : nG} {k : Nat} (hk : k < 10) : nn_ce cy ad σ (118+k) = nn_oc cy ad σ k := by
  have h1 : 118+k-118 = k := by omega
  unfold nn_ce
  rw [if_neg (by omega), if_neg (by omega), if_pos (by omega), h1]
theorem ce_S {cy : Nat → ClassId} {ad : Nat → Nat} {σ : nG} {v k : Nat} (hv : v < 4) (hk : k < 2) : nn_ce cy ad σ (128+2*v+k) = nn_sc cy ad v (gSh σ v) k := by
  have h1 : (128+2*v+k-128)/2 = v := by omega
  have h2 : (128+2*v+k-128)%2 = k := by omega
  unfold nn_ce
  rw [if_neg (by omega), if_neg (by omega), if_neg (by omega), if_pos (by omega), h1, h2]
theorem ce_M {cy : Nat → ClassId} {ad : Nat → Nat} {σ : nG} {k : Nat} : nn_ce cy ad σ (136+k) = nn_mc cy ad (gM σ) k := by
  have h1 : 136+k-136 = k := by omega
  unfold nn_ce
  rw [if_neg (by omega), if_neg (by omega), if_neg (by omega), if_neg (by omega), h1]
theorem un_V {cy : Nat → ClassId} {ad : Nat → Nat} {τ : nG} {v k : Nat} {x : nVl} (hv : v < 19) (hk : k < 6) (h : ∀ j, j < 6 → j ≠ k → nn_vc cy ad v x j = nn_vc cy ad v (gV τ v) j) : nn_U cy ad τ (sV τ v x) (6*v+k) (nn_vc cy ad v x k) := by
  refine ⟨by rw [ce_V hv hk, gsV], fun j hj hne => ?_⟩
  by_cases h1 : j < 114
  · obtain ⟨w, q, hq, rfl⟩ : ∃ w q, q < 6 ∧ j = 6*w+q := ⟨j/6, j%6, by omega, by omega⟩
    have hw : w < 19 := by omega
    rw [ce_V hw hq, ce_V hw hq]
    by_cases hwv : w = v
    · subst hwv
      rw [gsV, h q hq (by omega)]
    · rw [gnV _ _ hwv]
  · unfold nn_ce
    rw [if_neg h1, if_neg h1]; rfl
theorem un_H {cy : Nat → ClassId} {ad : Nat → Nat} {τ : nG} {v k : Nat} {x : nHi} (hv : v < 2) (hk : k < 2) (h : ∀ j, j < 2 → j ≠ k → nn_hc cy ad v x j = nn_hc cy ad v (gH τ v) j) : nn_U cy ad τ (sH τ v x) (114+2*v+k) (nn_hc cy ad v x k) := by
  refine ⟨by rw [ce_H hv hk, gsH], fun j hj hne => ?_⟩
  by_cases h1 : 114 ≤ j ∧ j < 118
  · obtain ⟨w, q, hq, rfl⟩ : ∃ w q, q < 2 ∧ j = 114+2*w+q := ⟨(j-114)/2, (j-114)%2, by omega, by omega⟩
    have hw : w < 2 := by omega
    rw [ce_H hw hq, ce_H hw hq]
    by_cases hwv : w = v
    · subst hwv
      rw [gsH, h q hq (by omega)]
    · rw [gnH _ _ hwv]
  · unfold nn_ce
    by_cases h2 : j < 114
    · rw [if_pos h2, if_pos h2]; rfl
    · have h3 : ¬ j < 118 := by omega
      rw [if_neg h2, if_neg h2, if_neg h3, if_neg h3]; rfl
theorem un_S {cy : Nat → ClassId} {ad : Nat → Nat} {τ : nG} {v k : Nat} {x : nSh} (hv : v < 4) (hk : k < 2) (h : ∀ j, j < 2 → j ≠ k → nn_sc cy ad v x j = nn_sc cy ad v (gSh τ v) j) : nn_U cy ad τ (sSh τ v x) (128+2*v+k) (nn_sc cy ad v x k) := by
  refine ⟨by rw [ce_S hv hk, gsS], fun j hj hne => ?_⟩
  by_cases h1 : 128 ≤ j ∧ j < 136
  · obtain ⟨w, q, hq, rfl⟩ : ∃ w q, q < 2 ∧ j = 128+2*w+q := ⟨(j-128)/2, (j-128)%2, by omega, by omega⟩
    have hw : w < 4 := by omega
    rw [ce_S hw hq, ce_S hw hq]
    by_cases hwv : w = v
    · subst hwv
      rw [gsS, h q hq (by omega)]
    · rw [gnS _ _ hwv]
  · unfold nn_ce
    by_cases h2 : j < 114
    · rw [if_pos h2, if_pos h2]; rfl
    · rw [if_neg h2, if_neg h2]
      by_cases h3 : j < 118
      · rw [if_pos h3, if_pos h3]; rfl
      · rw [if_neg h3, if_neg h3]
        by_cases h4 : j < 128
        · rw [if_pos h4, if_pos h4]; rfl
        · rw [if_neg h4, if_neg h4, if_neg (by omega), if_neg (by omega)]; rfl
theorem un_O {cy : Nat → ClassId} {ad : Nat → Nat} {τ τ' : nG} {k : Nat} (hk : k < 10) (hV : gV τ' = gV τ) (hH : gH τ' = gH τ) (hS : gSh τ' = gSh τ) (hM : gM τ' = gM τ) (h : ∀ j, j < 10 → j ≠ k → nn_oc cy ad τ' j = nn_oc cy ad τ j) : nn_U cy ad τ τ' (118+k) (nn_oc cy ad τ' k) := by
  refine ⟨ce_O hk, fun j hj hne => ?_⟩
  by_cases h1 : 118 ≤ j ∧ j < 128
  · obtain ⟨q, hq, rfl⟩ : ∃ q, q < 10 ∧ j = 118+q := ⟨j-118, by omega, by omega⟩
    rw [ce_O hq, ce_O hq, h q hq (by omega)]
  · unfold nn_ce
    rw [hV, hH, hS, hM]
    by_cases h2 : j < 114
    · rw [if_pos h2, if_pos h2]
    · rw [if_neg h2, if_neg h2]
      by_cases h3 : j < 118
      · rw [if_pos h3, if_pos h3]
      · have h4 : ¬ j < 128 := by omega
        rw [if_neg h3, if_neg h3, if_neg h4, if_neg h4]
theorem un_M {cy : Nat → ClassId} {ad : Nat → Nat} {τ : nG} {m : nMd} {k : Nat} (hk : k < 15) (h : ∀ j, j < 15 → j ≠ k → nn_mc cy ad m j = nn_mc cy ad (gM τ) j) : nn_U cy ad τ (sM τ m) (136+k) (nn_mc cy ad m k) := by
  refine ⟨ce_M, fun j hj hne => ?_⟩
  by_cases h1 : 136 ≤ j
  · obtain ⟨q, hq, rfl⟩ : ∃ q, q < 15 ∧ j = 136+q := ⟨j-136, by omega, by omega⟩
    rw [ce_M, ce_M]; exact h q hq (by omega)
  · unfold nn_ce
    by_cases h2 : j < 114
    · rw [if_pos h2, if_pos h2]; rfl
    · rw [if_neg h2, if_neg h2]
      by_cases h3 : j < 118
      · rw [if_pos h3, if_pos h3]; rfl
      · rw [if_neg h3, if_neg h3]
        by_cases h4 : j < 128
        · rw [if_pos h4, if_pos h4]; rfl
        · rw [if_neg h4, if_neg h4, if_pos (by omega), if_pos (by omega)]; rfl
theorem nn_D {cy : Nat → ClassId} {ad : Nat → Nat} {A : Nat → Prop} {τ τ' : nG} (h : va_D A (nn_w cy ad τ)) : va_D A (nn_w cy ad τ') := by
  have key : ∀ (k : Nat) (q : Nat × va_E), (nn_w cy ad τ')[k]? = some q → k < 151 ∧ ad k = q.1 := by
    intro k q hk
    have h1 := (List.getElem?_eq_some_iff.mp hk).1
    rw [nn_len] at h1
    rw [nn_at h1 rfl] at hk
    cases hk
    exact ⟨h1, rfl⟩
  refine ⟨fun i j p q hi hj hpq => ?_, fun k q hk => ?_⟩
  · obtain ⟨a1, a2⟩ := key i p hi
    obtain ⟨b1, b2⟩ := key j q hj
    exact h.1 i j _ _ (nn_at a1 rfl) (nn_at b1 rfl) (a2.trans (hpq.trans b2.symm))
  · obtain ⟨a1, a2⟩ := key k q hk
    rw [← a2]
    exact h.2 k _ (nn_at a1 rfl)
def nn_N (U : State) : Prop := va_Nw (.methodLinkNest "NineNoons" 11 yX5_init "NineNoons") U ∧ va_Nw (.methodLinkNest "NineNoons" 18 yX1_init "NineNoons") U ∧ va_Nw (.methodLinkNest "NineNoons$History" 11 yX5_init "NineNoons") U ∧ va_Nw (.methodLinkNest "NineNoons" 34 yX2_init "NineNoons") U ∧ va_Nw (.methodLinkNest "NineNoons" 41 yX0_init "NineNoons") U ∧ va_Nw (.methodLinkNest "NineNoons" 48 yX4_init "NineNoons") U ∧ va_Nw (.methodLinkNest "NineNoons" 55 yX3_init "NineNoons") U ∧ va_Nw (.methodLinkNest "NineNoons$Valley" 47 yX6_shorterWay "NineNoons") U ∧ va_Nw (.methodLinkNest "NineNoons$Valley" 75 yX6_roundTheHour "NineNoons") U ∧ va_Nw (.methodLinkNest "NineNoons$Setter" 52 yX6_roundTheHour "NineNoons") U ∧ va_Nw (.methodLinkNest "NineNoons$Setter" 55 yX6_minutesNear "NineNoons") U ∧ va_Nw (.methodLinkNest "NineNoons$Valley" 65 yX6_minutesNear "NineNoons") U ∧ va_Nw (.methodLinkNest "NineNoons$Carrier" 44 yX6_isIn "NineNoons") U ∧ va_Nw (.methodLinkNest "NineNoons$Carrier" 60 yX6_roundTheHour "NineNoons") U ∧ va_Nw (.methodLinkNest "NineNoons$Valley" 71 yX6_isIn "NineNoons") U
theorem nn_N.warm {s U : State} (hW : s.WarmedH U.vm) (h : nn_N s) : nn_N U := ⟨va_Nw.warmM hW h.1, va_Nw.warmM hW h.2.1, va_Nw.warmM hW h.2.2.1, va_Nw.warmM hW h.2.2.2.1, va_Nw.warmM hW h.2.2.2.2.1, va_Nw.warmM hW h.2.2.2.2.2.1, va_Nw.warmM hW h.2.2.2.2.2.2.1, va_Nw.warmM hW h.2.2.2.2.2.2.2.1, va_Nw.warmM hW h.2.2.2.2.2.2.2.2.1, va_Nw.warmM hW h.2.2.2.2.2.2.2.2.2.1, va_Nw.warmM hW h.2.2.2.2.2.2.2.2.2.2.1, va_Nw.warmM hW h.2.2.2.2.2.2.2.2.2.2.2.1, va_Nw.warmM hW h.2.2.2.2.2.2.2.2.2.2.2.2.1, va_Nw.warmM hW h.2.2.2.2.2.2.2.2.2.2.2.2.2.1, va_Nw.warmM hW h.2.2.2.2.2.2.2.2.2.2.2.2.2.2⟩
theorem nn_N.same {s U : State} (hW : s.vm = U.vm) (h : nn_N s) : nn_N U := ⟨va_Nw.same rfl hW h.1, va_Nw.same rfl hW h.2.1, va_Nw.same rfl hW h.2.2.1, va_Nw.same rfl hW h.2.2.2.1, va_Nw.same rfl hW h.2.2.2.2.1, va_Nw.same rfl hW h.2.2.2.2.2.1, va_Nw.same rfl hW h.2.2.2.2.2.2.1, va_Nw.same rfl hW h.2.2.2.2.2.2.2.1, va_Nw.same rfl hW h.2.2.2.2.2.2.2.2.1, va_Nw.same rfl hW h.2.2.2.2.2.2.2.2.2.1, va_Nw.same rfl hW h.2.2.2.2.2.2.2.2.2.2.1, va_Nw.same rfl hW h.2.2.2.2.2.2.2.2.2.2.2.1, va_Nw.same rfl hW h.2.2.2.2.2.2.2.2.2.2.2.2.1, va_Nw.same rfl hW h.2.2.2.2.2.2.2.2.2.2.2.2.2.1, va_Nw.same rfl hW h.2.2.2.2.2.2.2.2.2.2.2.2.2.2⟩
theorem nn_N.of {A : Array Value} {U : State} (h : ∀ w ∈ lw_tbl, w.before A U = true) : nn_N U := ⟨va_Nw.of rfl (h _ tb_1_23), va_Nw.of rfl (h _ tb_1_67), va_Nw.of rfl (h _ tb_1_73), va_Nw.of rfl (h _ tb_1_87), va_Nw.of rfl (h _ tb_1_104), va_Nw.of rfl (h _ tb_1_125), va_Nw.of rfl (h _ tb_1_147), va_Nw.of rfl (h _ tb_1_234), va_Nw.of rfl (h _ tb_2_126), va_Nw.of rfl (h _ tb_2_210), va_Nw.of rfl (h _ tb_2_211), va_Nw.of rfl (h _ tb_2_227), va_Nw.of rfl (h _ tb_3_16), va_Nw.of rfl (h _ tb_3_24), va_Nw.of rfl (h _ tb_3_53)⟩
theorem nw_0 {U : State} (h : nn_N U) : va_Nw (.methodLinkNest "NineNoons" 11 yX5_init "NineNoons") U := h.1
theorem nw_1 {U : State} (h : nn_N U) : va_Nw (.methodLinkNest "NineNoons" 18 yX1_init "NineNoons") U := h.2.1
theorem nw_2 {U : State} (h : nn_N U) : va_Nw (.methodLinkNest "NineNoons$History" 11 yX5_init "NineNoons") U := h.2.2.1
theorem nw_3 {U : State} (h : nn_N U) : va_Nw (.methodLinkNest "NineNoons" 34 yX2_init "NineNoons") U := h.2.2.2.1
theorem nw_4 {U : State} (h : nn_N U) : va_Nw (.methodLinkNest "NineNoons" 41 yX0_init "NineNoons") U := h.2.2.2.2.1
theorem nw_5 {U : State} (h : nn_N U) : va_Nw (.methodLinkNest "NineNoons" 48 yX4_init "NineNoons") U := h.2.2.2.2.2.1
theorem nw_6 {U : State} (h : nn_N U) : va_Nw (.methodLinkNest "NineNoons" 55 yX3_init "NineNoons") U := h.2.2.2.2.2.2.1
theorem nw_7 {U : State} (h : nn_N U) : va_Nw (.methodLinkNest "NineNoons$Valley" 47 yX6_shorterWay "NineNoons") U := h.2.2.2.2.2.2.2.1
theorem nw_8 {U : State} (h : nn_N U) : va_Nw (.methodLinkNest "NineNoons$Valley" 75 yX6_roundTheHour "NineNoons") U := h.2.2.2.2.2.2.2.2.1
theorem nw_9 {U : State} (h : nn_N U) : va_Nw (.methodLinkNest "NineNoons$Setter" 52 yX6_roundTheHour "NineNoons") U := h.2.2.2.2.2.2.2.2.2.1
theorem nw_10 {U : State} (h : nn_N U) : va_Nw (.methodLinkNest "NineNoons$Setter" 55 yX6_minutesNear "NineNoons") U := h.2.2.2.2.2.2.2.2.2.2.1
theorem nw_11 {U : State} (h : nn_N U) : va_Nw (.methodLinkNest "NineNoons$Valley" 65 yX6_minutesNear "NineNoons") U := h.2.2.2.2.2.2.2.2.2.2.2.1
theorem nw_12 {U : State} (h : nn_N U) : va_Nw (.methodLinkNest "NineNoons$Carrier" 44 yX6_isIn "NineNoons") U := h.2.2.2.2.2.2.2.2.2.2.2.2.1
theorem nw_13 {U : State} (h : nn_N U) : va_Nw (.methodLinkNest "NineNoons$Carrier" 60 yX6_roundTheHour "NineNoons") U := h.2.2.2.2.2.2.2.2.2.2.2.2.2.1
theorem nw_14 {U : State} (h : nn_N U) : va_Nw (.methodLinkNest "NineNoons$Valley" 71 yX6_isIn "NineNoons") U := h.2.2.2.2.2.2.2.2.2.2.2.2.2.2
def nn_t (cy : Nat → ClassId) : List (ClassId × FieldType) := [(cy 0, .int), (cy 1, .char), (cy 2, .long), (cy 3, .object "NineNoons$Sheet"), (cy 4, .object "NineNoons$Valley")]
def nn_K (D : va_G) (cy : Nat → ClassId) (U : State) : Prop := va_K D vwCl (nn_t cy) U ∧ nn_N U
def nn_W (D : va_G) (cy : Nat → ClassId) (ad : Nat → Nat) (A : Nat → Prop) (H0 : Heap) (τ : nG) (H : Heap) (locs : List Loc) : Prop := va_P D vwCl (nn_w cy ad τ) H ∧ va_D A (nn_w cy ad τ) ∧ va_S A H0 H locs
theorem nn_W.eq {D : va_G} {cy : Nat → ClassId} {ad : Nat → Nat} {A : Nat → Prop} {H0 : Heap} {τ τ' : nG} {H : Heap} {locs : List Loc} (h : τ = τ') (hw : nn_W D cy ad A H0 τ H locs) : nn_W D cy ad A H0 τ' H locs := h ▸ hw
def nn_ws (y : MethodName) (cc : ByteArray) (maxL : Nat) (ret : Option FieldType) : List Cond := Cond.code y cc maxL ret :: nn_B
abbrev nn_R (d : Nat) : Room := { frames := d, cells := 0, slots := 0, locals := 100 * d }
abbrev nn_Pre (D : va_G) (cy : Nat → ClassId) (ad : Nat → Nat) (A : Nat → Prop) (τ : nG) : State → Prop := fun U => nn_K D cy U ∧ va_P D vwCl (nn_w cy ad τ) U.heap ∧ va_D A (nn_w cy ad τ)
abbrev nn_qi (D : va_G) (cy : Nat → ClassId) (ad : Nat → Nat) (A : Nat → Prop) (r : Int32) (τ : nG) : Array Value → State → Outcome → State → Prop := va_Qi (fun q (_ : Unit) => q = r) (fun _ t => va_P D vwCl (nn_w cy ad τ) t.heap) A
abbrev nn_ql (D : va_G) (cy : Nat → ClassId) (ad : Nat → Nat) (A : Nat → Prop) (r : Int64) (τ : nG) : Array Value → State → Outcome → State → Prop := va_Ql (fun q (_ : Unit) => q = r) (fun _ t => va_P D vwCl (nn_w cy ad τ) t.heap) A
abbrev nn_qv (D : va_G) (cy : Nat → ClassId) (ad : Nat → Nat) (A : Nat → Prop) (τ : nG) : Array Value → State → Outcome → State → Prop := va_Qv (fun (_ : Unit) => True) (fun _ t => va_P D vwCl (nn_w cy ad τ) t.heap) A
def nn_I (l : Launch) (y : MethodName) (ws : List Cond) (rm : Room) (D : va_G) (cy : Nat → ClassId) (ad : Nat → Nat) (A : Nat → Prop) (av : List Value) (τ : nG) (r : Int32) (τ' : nG) : Prop := Met l y ws rm (va_Pc av (nn_Pre D cy ad A τ)) (nn_qi D cy ad A r τ') 0 0 A
def nn_J (l : Launch) (y : MethodName) (ws : List Cond) (rm : Room) (D : va_G) (cy : Nat → ClassId) (ad : Nat → Nat) (A : Nat → Prop) (av : List Value) (τ : nG) (r : Int64) (τ' : nG) : Prop := Met l y ws rm (va_Pc av (nn_Pre D cy ad A τ)) (nn_ql D cy ad A r τ') 0 0 A
def nn_V (l : Launch) (y : MethodName) (ws : List Cond) (rm : Room) (D : va_G) (cy : Nat → ClassId) (ad : Nat → Nat) (A : Nat → Prop) (av : List Value) (τ : nG) (τ' : nG) : Prop := Met l y ws rm (va_Pc av (nn_Pre D cy ad A τ)) (nn_qv D cy ad A τ') 0 0 A
theorem nn_blind {D : va_G} {cy : Nat → ClassId} {ad : Nat → Nat} {A : Nat → Prop} {av : List Value} {τ : nG} : FrameBlind (va_Pc av (nn_Pre D cy ad A τ)) := by
  intro a U g mk q
  obtain ⟨q0, ⟨qK, qN⟩, qP, qD⟩ := q
  exact ⟨q0, ⟨va_K.moved (u := U) (U := U.calling g mk a) (Vm.Alike.refl U.vm) qK, nn_N.same rfl qN⟩, qP, qD⟩
theorem nn_pay {y : MethodName} {bytes : ByteArray} {maxL : Nat} {ret : Option FieldType} (h : Cond.code y bytes maxL ret ∈ nn_B) : GoodIn nn_B (nn_ws y bytes maxL ret) := by
  intro w hw
  rcases List.mem_cons.mp hw with rfl | hw
  · exact ⟨h, good_of_word (List.mem_filter.mp h).2⟩
  · exact ⟨hw, good_of_word (List.mem_filter.mp hw).2⟩
abbrev nn_hd (y : MethodName) (n : Nat) : Prop := y.cls ≠ "java/lang/invoke/MethodHandle" ∧ y.cls ≠ "java/lang/invoke/VarHandle" ∧ (parseMethodDescriptor y.desc).map (fun d => d.parameters.length) = some n
abbrev nn_mV (y : MethodName) (bytes : ByteArray) (maxL : Nat) (ret : Option FieldType) (n : Nat) : Prop := Cond.instanceMethod y ∈ nn_B ∧ Cond.selects y.cls y y ∈ nn_B ∧ Cond.initialized y.cls ∈ nn_B ∧ Cond.code y bytes maxL ret ∈ nn_B ∧ nn_hd y n
abbrev nn_mS' (y : MethodName) (bytes : ByteArray) (maxL : Nat) (ret : Option FieldType) (n : Nat) : Prop := Cond.static y ∈ nn_B ∧ Cond.initialized y.cls ∈ nn_B ∧ Cond.code y bytes maxL ret ∈ nn_B ∧ nn_hd y n
section NN
variable {p : Program} {l : Launch} {e : Env} {R : Room} {s : State} {m : MethodId} {args : Array Value} {below : List Frame} {meth : Method} {c : Code} {H : Heap} {locs : List Loc} {cells slots : Nat} {Q : State → Prop} {cc : ByteArray} {nL : Nat} {own : String} {pc : Nat} {ls : Array Slot} {rest st : List Value} {D : va_G} {cy : Nat → ClassId} {ad : Nat → Nat} {A : Nat → Prop} {τ τ' : nG}
theorem nn_get (S : CallFix p m c cc nL s args nn_B own) (hK : nn_K D cy s) (hw : nn_W D cy ad A s.heap τ H locs) {i ci : Nat} {fs : List Value} (he : nn_ce cy ad τ i = .inr (ci, fs)) (hi : i < 151) {C : String} {T : u_T} {N : Nat} (hc : vwCl[ci]? = some (C, T, N)) (hin : ∀ w ∈ u_ws C T N, w ∈ nn_B) (k : Nat) (hk : k < N) {index : Nat} (hlink : Cond.fieldLink own index (T k).1 (T k).2.1 (T k).2.2.1 ∈ nn_B) {v : Value} (hv : fs[k]? = some v) (hdg : decode cc pc = .ok (.getfield index, 3)) (kk : W p l e R s m args below meth c H locs cells slots Q (F0 m (pc + 3) ls (v :: rest))) : W p l e R s m args below meth c H locs cells slots Q (F0 m pc ls (.ref (ad i) :: rest)) :=
  va_get S.1 S.2.1 S.2.2.2.2 hin S.2.2.2.1 hK.1 hw.1 i (nn_at hi he) hc k hk (S.2.2.2.2 _ hlink) (fun _ h => h) hv hdg kk
theorem nn_put (S : CallFix p m c cc nL s args nn_B own) (hK : nn_K D cy s) (hw : nn_W D cy ad A s.heap τ H locs) {i ci : Nat} {fs : List Value} (he : nn_ce cy ad τ i = .inr (ci, fs)) (hi : i < 151) {C : String} {T : u_T} {N : Nat} (hc : vwCl[ci]? = some (C, T, N)) (hin : ∀ w ∈ u_ws C T N, w ∈ nn_B) (ty0 : Nat → FieldType) (hty : ∀ k, k < N → parseFieldDescriptor (T k).2.2.1 = some (ty0 k)) (hnm : ∀ a, a < N → ∀ b, b < N → a ≠ b → (T a).2.1 ≠ (T b).2.1) (k : Nat) (hk : k < N) {index : Nat} (hlink : Cond.fieldLink own index (T k).1 (T k).2.1 (T k).2.2.1 ∈ nn_B) (hfin : (T k).2.2.2 = false) {v : Value} (hn : narrow (ty0 k) v = v) (hfit : fits (ty0 k) v = true) (hl : k < fs.length) (hu : nn_U cy ad τ τ' i (.inr (ci, fs.set k v))) (hdg : decode cc pc = .ok (.putfield index, 3)) (kk : ∀ (H : Heap) (locs : List Loc), nn_W D cy ad A s.heap τ' H locs → W p l e R s m args below meth c H locs cells slots Q (F0 m (pc + 3) ls rest)) : W p l e R s m args below meth c H locs cells slots Q (F0 m pc ls (v :: .ref (ad i) :: rest)) := by
  refine va_put S.1 S.2.1 S.2.2.2.2 hin ty0 hty hnm S.2.2.2.1 hK.1 hw.1 hw.2.1 hw.2.2 i (nn_at hi he) hc k hk (S.2.2.2.2 _ hlink) (fun _ h => h) hfin (hty k hk) hn hfit hl hdg (fun H1 locs1 h1 h2 h3 => ?_)
  rw [nn_set hi hu] at h1 h2
  exact kk H1 locs1 ⟨h1, h2, h3⟩
theorem nn_ild (S : CallFix p m c cc nL s args nn_B own) (hK : nn_K D cy s) (hw : nn_W D cy ad A s.heap τ H locs) {i n : Nat} {f : Nat → Int32} (he : nn_ce cy ad τ i = .inl (cy 0, n, .inl f)) (hi : i < 151) {j : Int32} (hin : ¬ (j < 0 ∨ n ≤ j.toNatClampNeg)) (hdg : decode cc pc = .ok (.iaload, 1)) (kk : W p l e R s m args below meth c H locs cells slots Q (F0 m (pc + 1) ls (.int (f j.toNatClampNeg) :: rest))) : W p l e R s m args below meth c H locs cells slots Q (F0 m pc ls (.int j :: .ref (ad i) :: rest)) :=
  va_iald S.1 S.2.1 hK.1 hw.1 i 0 (nn_at hi he) rfl hin hdg kk
theorem nn_cld (S : CallFix p m c cc nL s args nn_B own) (hK : nn_K D cy s) (hw : nn_W D cy ad A s.heap τ H locs) {i n : Nat} {f : Nat → Int32} (he : nn_ce cy ad τ i = .inl (cy 1, n, .inl f)) (hi : i < 151) {j : Int32} (hin : ¬ (j < 0 ∨ n ≤ j.toNatClampNeg)) (hdg : decode cc pc = .ok (.caload, 1)) (kk : W p l e R s m args below meth c H locs cells slots Q (F0 m (pc + 1) ls (.int (f j.toNatClampNeg) :: rest))) : W p l e R s m args below meth c H locs cells slots Q (F0 m pc ls (.int j :: .ref (ad i) :: rest)) :=
  va_cald S.1 S.2.1 hK.1 hw.1 i 1 (nn_at hi he) rfl hin hdg kk
theorem nn_lld (S : CallFix p m c cc nL s args nn_B own) (hK : nn_K D cy s) (hw : nn_W D cy ad A s.heap τ H locs) {i n : Nat} {f : Nat → Int64} (he : nn_ce cy ad τ i = .inl (cy 2, n, .inr (.inl f))) (hi : i < 151) {j : Int32} (hin : ¬ (j < 0 ∨ n ≤ j.toNatClampNeg)) (hdg : decode cc pc = .ok (.laload, 1)) (kk : W p l e R s m args below meth c H locs cells slots Q (F0 m (pc + 1) ls (.long (f j.toNatClampNeg) :: rest))) : W p l e R s m args below meth c H locs cells slots Q (F0 m pc ls (.int j :: .ref (ad i) :: rest)) :=
  va_lald S.1 S.2.1 hK.1 hw.1 i 2 (nn_at hi he) rfl hin hdg kk
theorem nn_aldS (S : CallFix p m c cc nL s args nn_B own) (hK : nn_K D cy s) (hw : nn_W D cy ad A s.heap τ H locs) {j : Int32} (hin : ¬ (j < 0 ∨ 4 ≤ j.toNatClampNeg)) (hdg : decode cc pc = .ok (.aaload, 1)) (kk : W p l e R s m args below meth c H locs cells slots Q (F0 m (pc + 1) ls (.ref (ad (128+2*j.toNatClampNeg)) :: rest))) : W p l e R s m args below meth c H locs cells slots Q (F0 m pc ls (.int j :: .ref (ad 127) :: rest)) :=
  va_aldq S.1 S.2.1 hK.1 hw.1 127 3 (nn_at (by decide) (ce_O (k := 9) (by decide))) rfl hin hdg kk
theorem nn_aldV (S : CallFix p m c cc nL s args nn_B own) (hK : nn_K D cy s) (hw : nn_W D cy ad A s.heap τ H locs) {h : Nat} (hh : h < 2) {j : Int32} (hin : ¬ (j < 0 ∨ 8 ≤ j.toNatClampNeg)) (hdg : decode cc pc = .ok (.aaload, 1)) (kk : W p l e R s m args below meth c H locs cells slots Q (F0 m (pc + 1) ls (.ref (ad (6*(3+8*h+j.toNatClampNeg))) :: rest))) : W p l e R s m args below meth c H locs cells slots Q (F0 m pc ls (.int j :: .ref (ad (115+2*h)) :: rest)) := by
  have e : 115+2*h = 114+2*h+1 := by omega
  rw [e]
  exact va_aldq S.1 S.2.1 hK.1 hw.1 (114+2*h+1) 4 (nn_at (by omega) (ce_H hh (by decide))) rfl hin hdg kk
theorem nn_ist (S : CallFix p m c cc nL s args nn_B own) (hK : nn_K D cy s) (hw : nn_W D cy ad A s.heap τ H locs) {i n : Nat} {f : Nat → Int32} (he : nn_ce cy ad τ i = .inl (cy 0, n, .inl f)) (hi : i < 151) {j x : Int32} (hin : ¬ (j < 0 ∨ n ≤ j.toNatClampNeg)) (hu : nn_U cy ad τ τ' i (.inl (cy 0, n, .inl (upd f j.toNatClampNeg x)))) (hdg : decode cc pc = .ok (.iastore, 1)) (kk : ∀ (H : Heap) (locs : List Loc), nn_W D cy ad A s.heap τ' H locs → W p l e R s m args below meth c H locs cells slots Q (F0 m (pc + 1) ls rest)) : W p l e R s m args below meth c H locs cells slots Q (F0 m pc ls (.int x :: .int j :: .ref (ad i) :: rest)) := by
  refine va_iast S.1 S.2.1 hK.1 hw.1 hw.2.1 hw.2.2 i 0 (nn_at hi he) rfl hin hdg (fun H1 locs1 h1 h2 h3 => ?_)
  rw [nn_set hi hu] at h1 h2
  exact kk H1 locs1 ⟨h1, h2, h3⟩
theorem nn_cst (S : CallFix p m c cc nL s args nn_B own) (hK : nn_K D cy s) (hw : nn_W D cy ad A s.heap τ H locs) {i n : Nat} {f : Nat → Int32} (he : nn_ce cy ad τ i = .inl (cy 1, n, .inl f)) (hi : i < 151) {j x : Int32} (hin : ¬ (j < 0 ∨ n ≤ j.toNatClampNeg)) (hu : nn_U cy ad τ τ' i (.inl (cy 1, n, .inl (upd f j.toNatClampNeg (vp_nar .char x))))) (hdg : decode cc pc = .ok (.castore, 1)) (kk : ∀ (H : Heap) (locs : List Loc), nn_W D cy ad A s.heap τ' H locs → W p l e R s m args below meth c H locs cells slots Q (F0 m (pc + 1) ls rest)) : W p l e R s m args below meth c H locs cells slots Q (F0 m pc ls (.int x :: .int j :: .ref (ad i) :: rest)) := by
  refine va_cast S.1 S.2.1 hK.1 hw.1 hw.2.1 hw.2.2 i 1 (nn_at hi he) rfl hin hdg (fun H1 locs1 h1 h2 h3 => ?_)
  rw [nn_set hi hu] at h1 h2
  exact kk H1 locs1 ⟨h1, h2, h3⟩
theorem nn_lst (S : CallFix p m c cc nL s args nn_B own) (hK : nn_K D cy s) (hw : nn_W D cy ad A s.heap τ H locs) {i n : Nat} {f : Nat → Int64} (he : nn_ce cy ad τ i = .inl (cy 2, n, .inr (.inl f))) (hi : i < 151) {j : Int32} {x : Int64} (hin : ¬ (j < 0 ∨ n ≤ j.toNatClampNeg)) (hu : nn_U cy ad τ τ' i (.inl (cy 2, n, .inr (.inl (vp_updL f j.toNatClampNeg x))))) (hdg : decode cc pc = .ok (.lastore, 1)) (kk : ∀ (H : Heap) (locs : List Loc), nn_W D cy ad A s.heap τ' H locs → W p l e R s m args below meth c H locs cells slots Q (F0 m (pc + 1) ls rest)) : W p l e R s m args below meth c H locs cells slots Q (F0 m pc ls (.long x :: .int j :: .ref (ad i) :: rest)) := by
  refine va_last S.1 S.2.1 hK.1 hw.1 hw.2.1 hw.2.2 i 2 (nn_at hi he) rfl hin hdg (fun H1 locs1 h1 h2 h3 => ?_)
  rw [nn_set hi hu] at h1 h2
  exact kk H1 locs1 ⟨h1, h2, h3⟩
theorem nn_acI (S : CallFix p m c cc nL s args nn_B own) (hK : nn_K D cy s) (hw : nn_W D cy ad A s.heap τ H locs) {i0 i1 n0 n1 : Nat} {f g : Nat → Int32} (he0 : nn_ce cy ad τ i0 = .inl (cy 0, n0, .inl (f))) (hi0 : i0 < 151) (he1 : nn_ce cy ad τ i1 = .inl (cy 0, n1, .inl (g))) (hi1 : i1 < 151) {sp dp n : Int32} (h1 : ¬ sp < 0) (h2 : ¬ dp < 0) (h3 : ¬ n < 0) (h4 : sp.toNatClampNeg + n.toNatClampNeg ≤ n0) (h5 : dp.toNatClampNeg + n.toNatClampNeg ≤ n1) (hsz : ls.size = nL) (hf : 1 ≤ R.frames) (hl : (rest.map fun v => v.category).sum + (nativeFrameWords "java/lang/System" "arraycopy" 5 + 11) ≤ R.locals) (hu : nn_U cy ad τ τ' i1 (.inl (cy 0, n1, .inl (va_cpy f g sp.toNatClampNeg dp.toNatClampNeg n.toNatClampNeg)))) {index : Nat} (hlink : Cond.methodLink own index arraycopyName ∈ nn_B) (hdg : decode cc pc = .ok (.invokestatic index, 3)) (kk : ∀ (H : Heap) (locs : List Loc), nn_W D cy ad A s.heap τ' H locs → W p l e R s m args below meth c H locs cells slots Q (F0 m (pc + 3) ls rest)) : W p l e R s m args below meth c H locs cells slots Q (F0 m pc ls (.int n :: .int dp :: .ref (ad i1) :: .int sp :: .ref (ad i0) :: rest)) := by
  refine va_copyi S.1 S.2.1 (by rw [S.2.2.1, hsz]) S.2.2.2.1 (S.2.2.2.2 _ hlink) (S.2.2.2.2 _ tb_2_39) (S.2.2.2.2 _ tb_2_38) (S.2.2.2.2 _ tb_1_10) hK.1 hw.1 hw.2.1 hw.2.2 i0 i1 0 0 (nn_at hi0 he0) (nn_at hi1 he1) rfl rfl rfl h1 h2 h3 h4 h5 (fun _ _ => rfl) hf hl hdg (fun H1 locs1 h1 h2 h3 => ?_)
  rw [nn_set hi1 hu] at h1 h2
  exact kk H1 locs1 ⟨h1, h2, h3⟩
theorem nn_acL (S : CallFix p m c cc nL s args nn_B own) (hK : nn_K D cy s) (hw : nn_W D cy ad A s.heap τ H locs) {i0 i1 n0 n1 : Nat} {f g : Nat → Int64} (he0 : nn_ce cy ad τ i0 = .inl (cy 2, n0, .inr (.inl (f)))) (hi0 : i0 < 151) (he1 : nn_ce cy ad τ i1 = .inl (cy 2, n1, .inr (.inl (g)))) (hi1 : i1 < 151) {sp dp n : Int32} (h1 : ¬ sp < 0) (h2 : ¬ dp < 0) (h3 : ¬ n < 0) (h4 : sp.toNatClampNeg + n.toNatClampNeg ≤ n0) (h5 : dp.toNatClampNeg + n.toNatClampNeg ≤ n1) (hsz : ls.size = nL) (hf : 1 ≤ R.frames) (hl : (rest.map fun v => v.category).sum + (nativeFrameWords "java/lang/System" "arraycopy" 5 + 11) ≤ R.locals) (hu : nn_U cy ad τ τ' i1 (.inl (cy 2, n1, .inr (.inl (va_cpy f g sp.toNatClampNeg dp.toNatClampNeg n.toNatClampNeg))))) {index : Nat} (hlink : Cond.methodLink own index arraycopyName ∈ nn_B) (hdg : decode cc pc = .ok (.invokestatic index, 3)) (kk : ∀ (H : Heap) (locs : List Loc), nn_W D cy ad A s.heap τ' H locs → W p l e R s m args below meth c H locs cells slots Q (F0 m (pc + 3) ls rest)) : W p l e R s m args below meth c H locs cells slots Q (F0 m pc ls (.int n :: .int dp :: .ref (ad i1) :: .int sp :: .ref (ad i0) :: rest)) := by
  refine va_copyl S.1 S.2.1 (by rw [S.2.2.1, hsz]) S.2.2.2.1 (S.2.2.2.2 _ hlink) (S.2.2.2.2 _ tb_2_39) (S.2.2.2.2 _ tb_2_38) (S.2.2.2.2 _ tb_1_10) hK.1 hw.1 hw.2.1 hw.2.2 i0 i1 2 2 (nn_at hi0 he0) (nn_at hi1 he1) rfl rfl rfl h1 h2 h3 h4 h5 (fun _ _ => rfl) hf hl hdg (fun H1 locs1 h1 h2 h3 => ?_)
  rw [nn_set hi1 hu] at h1 h2
  exact kk H1 locs1 ⟨h1, h2, h3⟩
theorem nn_iret (S : CallFix p m c cc nL s args nn_B own) (hr : meth.sig.returnType = some .int) (hlk : meth.locks = false) (hw : nn_W D cy ad A s.heap τ H locs) {v r : Int32} (hv : v = r) (hτ : τ = τ') (hdg : decode cc pc = .ok (.ireturn, 1)) : W p l e R s m args below meth c H locs 0 0 (MQ below (nn_qi D cy ad A r τ') args s 0 0 A) (F0 m pc ls [.int v]) := by
  subst hv; subst hτ
  exact W.iret S.1 S.2.1 hr (fun t ht hW => ⟨⟨v, (), rfl, rfl, by show va_P D vwCl (nn_w cy ad τ) t.heap; rw [ht]; exact hw.1⟩, hw.2.2.F ht⟩) hw.2.2.2.2 hdg hlk
theorem nn_zret (S : CallFix p m c cc nL s args nn_B own) {ty : FieldType} (hr : meth.sig.returnType = some ty) (hlk : meth.locks = false) (hw : nn_W D cy ad A s.heap τ H locs) {v r : Int32} (hn : narrow ty (.int v) = .int v) (hv : v = r) (hτ : τ = τ') (hdg : decode cc pc = .ok (.ireturn, 1)) : W p l e R s m args below meth c H locs 0 0 (MQ below (nn_qi D cy ad A r τ') args s 0 0 A) (F0 m pc ls [.int v]) := by
  subst hv; subst hτ
  exact W.zret S.1 S.2.1 hr hn (fun t ht hW => ⟨⟨v, (), rfl, rfl, by show va_P D vwCl (nn_w cy ad τ) t.heap; rw [ht]; exact hw.1⟩, hw.2.2.F ht⟩) hw.2.2.2.2 hdg hlk
theorem nn_lret (S : CallFix p m c cc nL s args nn_B own) (hr : meth.sig.returnType = some .long) (hlk : meth.locks = false) (hw : nn_W D cy ad A s.heap τ H locs) {v r : Int64} (hv : v = r) (hτ : τ = τ') (hdg : decode cc pc = .ok (.lreturn, 1)) : W p l e R s m args below meth c H locs 0 0 (MQ below (nn_ql D cy ad A r τ') args s 0 0 A) (F0 m pc ls [.long v]) := by
  subst hv; subst hτ
  exact W.lret S.1 S.2.1 hr (fun t ht hW => ⟨⟨v, (), rfl, rfl, by show va_P D vwCl (nn_w cy ad τ) t.heap; rw [ht]; exact hw.1⟩, hw.2.2.F ht⟩) hw.2.2.2.2 hdg hlk
theorem nn_vret (S : CallFix p m c cc nL s args nn_B own) (hr : meth.sig.returnType = none) (hlk : meth.locks = false) (hw : nn_W D cy ad A s.heap τ H locs) (hτ : τ = τ') (hdg : decode cc pc = .ok (.return_, 1)) : W p l e R s m args below meth c H locs 0 0 (MQ below (nn_qv D cy ad A τ') args s 0 0 A) (F0 m pc ls []) := by
  subst hτ
  exact W.vret S.1 S.2.1 hr (fun t ht hW => ⟨⟨(), rfl, trivial, by show va_P D vwCl (nn_w cy ad τ) t.heap; rw [ht]; exact hw.1⟩, hw.2.2.F ht⟩) hw.2.2.2.2 hdg hlk
theorem nn_preS {av : List Value} (hK : nn_K D cy s) (hw : nn_W D cy ad A s.heap τ H locs) : PreS s H (va_Pc av (nn_Pre D cy ad A τ)) av := ⟨nn_blind, fun U hU hW => ⟨rfl, ⟨va_K.moved hW.alike hK.1, hK.2.warm hW⟩, by rw [hU]; exact hw.1, hw.2.1⟩⟩
theorem nn_preV {i ci : Nat} {fs As : List Value} {q : vw_C} {C : String} (hK : nn_K D cy s) (hw : nn_W D cy ad A s.heap τ H locs) (he : nn_ce cy ad τ i = .inr (ci, fs)) (hi : i < 151) (hc : vwCl[ci]? = some q) (hq : q.1 = C) : PreV s H C (ad i) (va_Pc (.ref (ad i) :: As) (nn_Pre D cy ad A τ)) As := ⟨nn_blind, by subst hq; exact va_recv hK.1 hw.1 hc (nn_at hi he), (nn_preS hK hw).2⟩
theorem nn_cwV {y : MethodName} {bytes : ByteArray} {maxL : Nat} {ret : Option FieldType} {n d index : Nat} (hts : ∀ w ∈ nn_B, w.before args s = true) (mv : nn_mV y bytes maxL ret n) (hlink : Cond.methodLink own index y ∈ nn_B) (hR : d + 1 ≤ R.frames ∧ 8 + (maxL + 11) + 100 * d ≤ R.locals) : CallW R s args own y.cls index y bytes maxL ret (nn_ws y bytes maxL ret) (nn_R d) 0 0 n :=
  ⟨callB_of n hts (nn_pay mv.2.2.2.1) rfl rfl rfl (hts _ mv.2.2.1) (hts _ hlink) mv.2.2.2.2 hR, hts _ mv.1, hts _ mv.2.1⟩
theorem nn_cwS {y : MethodName} {bytes : ByteArray} {maxL : Nat} {ret : Option FieldType} {n d index : Nat} (hts : ∀ w ∈ nn_B, w.before args s = true) (mv : nn_mS' y bytes maxL ret n) (hlink : Cond.methodLink own index y ∈ nn_B) (hR : d + 1 ≤ R.frames ∧ 8 + (maxL + 11) + 100 * d ≤ R.locals) : CallB R s args own index y bytes maxL ret (nn_ws y bytes maxL ret) (nn_R d) 0 0 n ∧ (Cond.static y).before args s = true :=
  ⟨callB_of n hts (nn_pay mv.2.2.1) rfl rfl rfl (hts _ mv.2.1) (hts _ hlink) mv.2.2.2 hR, hts _ mv.1⟩
theorem nn_cwN {y : MethodName} {bytes : ByteArray} {maxL : Nat} {ret : Option FieldType} {n d index : Nat} {host : String} (hts : ∀ w ∈ nn_B, w.before args s = true) (mv : nn_mS' y bytes maxL ret n) (hlink : va_Nw (.methodLinkNest own index y host) s) (hR : d + 1 ≤ R.frames ∧ 8 + (maxL + 11) + 100 * d ≤ R.locals) : va_CN R s args own index y host bytes maxL ret (nn_ws y bytes maxL ret) (nn_R d) 0 0 n ∧ (Cond.static y).before args s = true ∧ True :=
  ⟨va_cnB n hts (nn_pay mv.2.2.1) rfl rfl rfl hlink (hts _ mv.2.1) mv.2.2.2 hR, hts _ mv.1, trivial⟩
theorem nn_calliV (S : CallFix p m c cc nL s args nn_B own) {y : MethodName} {bytes : ByteArray} {maxL : Nat} {ret : Option FieldType} {n d index : Nat} {As : List Value} {r : Int32} {i ci : Nat} {fs : List Value} {q0 : vw_C} (he : nn_ce cy ad τ i = .inr (ci, fs)) (hi : i < 151) (hc : vwCl[ci]? = some q0) (hq : q0.1 = y.cls) (hM : nn_I l y (nn_ws y bytes maxL ret) (nn_R d) D cy ad A (.ref (ad i) :: As) τ r τ') (mv : nn_mV y bytes maxL ret n) (hlink : Cond.methodLink own index y ∈ nn_B) (hK : nn_K D cy s) (hw : nn_W D cy ad A s.heap τ H locs) (hR : d + 1 ≤ R.frames ∧ 8 + (maxL + 11) + 100 * d ≤ R.locals) (hcs : cells ≤ R.cells ∧ slots ≤ R.slots) (hn : As.length = n) (hsz : ls.size = nL) (hst : st = As.reverse ++ .ref (ad i) :: rest) (hW : (rest.map fun v => v.category).sum ≤ 8) (hdg : decode cc pc = .ok (.invokevirtual index, 3)) (kk : ∀ (H : Heap) (locs : List Loc), nn_W D cy ad A s.heap τ' H locs → W p l e R s m args below meth c H locs cells slots Q (F0 m (pc + 3) ls (.int r :: rest))) : W p l e R s m args below meth c H locs cells slots Q (F0 m pc ls st) := by
  refine va_calli (va_runV (As := As) (rest := rest) S hM (nn_cwV S.2.2.2.2 mv hlink hR) (nn_preV hK hw he hi hc hq) rfl hn hsz hst (lv_room hW) hdg hcs) hw.2.2 (fun _ _ h => h) (fun _ h => h) (fun q u t H1 locs1 ht hvm hp hB hz hk hS => ?_)
  subst hp
  rw [ht] at hB
  exact kk H1 locs1 ⟨hB, nn_D hw.2.1, hS⟩
theorem nn_calliS (S : CallFix p m c cc nL s args nn_B own) {y : MethodName} {bytes : ByteArray} {maxL : Nat} {ret : Option FieldType} {n d index : Nat} {As : List Value} {r : Int32} (hM : nn_I l y (nn_ws y bytes maxL ret) (nn_R d) D cy ad A As τ r τ') (mv : nn_mS' y bytes maxL ret n) (hlink : Cond.methodLink own index y ∈ nn_B) (hK : nn_K D cy s) (hw : nn_W D cy ad A s.heap τ H locs) (hR : d + 1 ≤ R.frames ∧ 8 + (maxL + 11) + 100 * d ≤ R.locals) (hcs : cells ≤ R.cells ∧ slots ≤ R.slots) (hn : As.length = n) (hsz : ls.size = nL) (hst : st = As.reverse ++ rest) (hW : (rest.map fun v => v.category).sum ≤ 8) (hdg : decode cc pc = .ok (.invokestatic index, 3)) (kk : ∀ (H : Heap) (locs : List Loc), nn_W D cy ad A s.heap τ' H locs → W p l e R s m args below meth c H locs cells slots Q (F0 m (pc + 3) ls (.int r :: rest))) : W p l e R s m args below meth c H locs cells slots Q (F0 m pc ls st) := by
  refine va_calli (va_runS (As := As) (rest := rest) S hM (nn_cwS S.2.2.2.2 mv hlink hR) (nn_preS hK hw) rfl hn hsz hst (lv_room hW) hdg hcs) hw.2.2 (fun _ _ h => h) (fun _ h => h) (fun q u t H1 locs1 ht hvm hp hB hz hk hS => ?_)
  subst hp
  rw [ht] at hB
  exact kk H1 locs1 ⟨hB, nn_D hw.2.1, hS⟩
theorem nn_calliN (S : CallFix p m c cc nL s args nn_B own) {y : MethodName} {bytes : ByteArray} {maxL : Nat} {ret : Option FieldType} {n d index : Nat} {host : String} {As : List Value} {r : Int32} (hM : nn_I l y (nn_ws y bytes maxL ret) (nn_R d) D cy ad A As τ r τ') (mv : nn_mS' y bytes maxL ret n) (hlink : va_Nw (.methodLinkNest own index y host) s) (hK : nn_K D cy s) (hw : nn_W D cy ad A s.heap τ H locs) (hR : d + 1 ≤ R.frames ∧ 8 + (maxL + 11) + 100 * d ≤ R.locals) (hcs : cells ≤ R.cells ∧ slots ≤ R.slots) (hn : As.length = n) (hsz : ls.size = nL) (hst : st = As.reverse ++ rest) (hW : (rest.map fun v => v.category).sum ≤ 8) (hdg : decode cc pc = .ok (.invokestatic index, 3)) (kk : ∀ (H : Heap) (locs : List Loc), nn_W D cy ad A s.heap τ' H locs → W p l e R s m args below meth c H locs cells slots Q (F0 m (pc + 3) ls (.int r :: rest))) : W p l e R s m args below meth c H locs cells slots Q (F0 m pc ls st) := by
  refine va_calli (va_runSN (As := As) (rest := rest) S hM (nn_cwN S.2.2.2.2 mv hlink hR) (nn_preS hK hw) rfl hn hsz hst (lv_room hW) hdg hcs) hw.2.2 (fun _ _ h => h) (fun _ h => h) (fun q u t H1 locs1 ht hvm hp hB hz hk hS => ?_)
  subst hp
  rw [ht] at hB
  exact kk H1 locs1 ⟨hB, nn_D hw.2.1, hS⟩
theorem nn_calllV (S : CallFix p m c cc nL s args nn_B own) {y : MethodName} {bytes : ByteArray} {maxL : Nat} {ret : Option FieldType} {n d index : Nat} {As : List Value} {r : Int64} {i ci : Nat} {fs : List Value} {q0 : vw_C} (he : nn_ce cy ad τ i = .inr (ci, fs)) (hi : i < 151) (hc : vwCl[ci]? = some q0) (hq : q0.1 = y.cls) (hM : nn_J l y (nn_ws y bytes maxL ret) (nn_R d) D cy ad A (.ref (ad i) :: As) τ r τ') (mv : nn_mV y bytes maxL ret n) (hlink : Cond.methodLink own index y ∈ nn_B) (hK : nn_K D cy s) (hw : nn_W D cy ad A s.heap τ H locs) (hR : d + 1 ≤ R.frames ∧ 8 + (maxL + 11) + 100 * d ≤ R.locals) (hcs : cells ≤ R.cells ∧ slots ≤ R.slots) (hn : As.length = n) (hsz : ls.size = nL) (hst : st = As.reverse ++ .ref (ad i) :: rest) (hW : (rest.map fun v => v.category).sum ≤ 8) (hdg : decode cc pc = .ok (.invokevirtual index, 3)) (kk : ∀ (H : Heap) (locs : List Loc), nn_W D cy ad A s.heap τ' H locs → W p l e R s m args below meth c H locs cells slots Q (F0 m (pc + 3) ls (.long r :: rest))) : W p l e R s m args below meth c H locs cells slots Q (F0 m pc ls st) := by
  refine va_calll (va_runV (As := As) (rest := rest) S hM (nn_cwV S.2.2.2.2 mv hlink hR) (nn_preV hK hw he hi hc hq) rfl hn hsz hst (lv_room hW) hdg hcs) hw.2.2 (fun _ _ h => h) (fun _ h => h) (fun q u t H1 locs1 ht hvm hp hB hz hk hS => ?_)
  subst hp
  rw [ht] at hB
  exact kk H1 locs1 ⟨hB, nn_D hw.2.1, hS⟩
theorem nn_calllS (S : CallFix p m c cc nL s args nn_B own) {y : MethodName} {bytes : ByteArray} {maxL : Nat} {ret : Option FieldType} {n d index : Nat} {As : List Value} {r : Int64} (hM : nn_J l y (nn_ws y bytes maxL ret) (nn_R d) D cy ad A As τ r τ') (mv : nn_mS' y bytes maxL ret n) (hlink : Cond.methodLink own index y ∈ nn_B) (hK : nn_K D cy s) (hw : nn_W D cy ad A s.heap τ H locs) (hR : d + 1 ≤ R.frames ∧ 8 + (maxL + 11) + 100 * d ≤ R.locals) (hcs : cells ≤ R.cells ∧ slots ≤ R.slots) (hn : As.length = n) (hsz : ls.size = nL) (hst : st = As.reverse ++ rest) (hW : (rest.map fun v => v.category).sum ≤ 8) (hdg : decode cc pc = .ok (.invokestatic index, 3)) (kk : ∀ (H : Heap) (locs : List Loc), nn_W D cy ad A s.heap τ' H locs → W p l e R s m args below meth c H locs cells slots Q (F0 m (pc + 3) ls (.long r :: rest))) : W p l e R s m args below meth c H locs cells slots Q (F0 m pc ls st) := by
  refine va_calll (va_runS (As := As) (rest := rest) S hM (nn_cwS S.2.2.2.2 mv hlink hR) (nn_preS hK hw) rfl hn hsz hst (lv_room hW) hdg hcs) hw.2.2 (fun _ _ h => h) (fun _ h => h) (fun q u t H1 locs1 ht hvm hp hB hz hk hS => ?_)
  subst hp
  rw [ht] at hB
  exact kk H1 locs1 ⟨hB, nn_D hw.2.1, hS⟩
theorem nn_calllN (S : CallFix p m c cc nL s args nn_B own) {y : MethodName} {bytes : ByteArray} {maxL : Nat} {ret : Option FieldType} {n d index : Nat} {host : String} {As : List Value} {r : Int64} (hM : nn_J l y (nn_ws y bytes maxL ret) (nn_R d) D cy ad A As τ r τ') (mv : nn_mS' y bytes maxL ret n) (hlink : va_Nw (.methodLinkNest own index y host) s) (hK : nn_K D cy s) (hw : nn_W D cy ad A s.heap τ H locs) (hR : d + 1 ≤ R.frames ∧ 8 + (maxL + 11) + 100 * d ≤ R.locals) (hcs : cells ≤ R.cells ∧ slots ≤ R.slots) (hn : As.length = n) (hsz : ls.size = nL) (hst : st = As.reverse ++ rest) (hW : (rest.map fun v => v.category).sum ≤ 8) (hdg : decode cc pc = .ok (.invokestatic index, 3)) (kk : ∀ (H : Heap) (locs : List Loc), nn_W D cy ad A s.heap τ' H locs → W p l e R s m args below meth c H locs cells slots Q (F0 m (pc + 3) ls (.long r :: rest))) : W p l e R s m args below meth c H locs cells slots Q (F0 m pc ls st) := by
  refine va_calll (va_runSN (As := As) (rest := rest) S hM (nn_cwN S.2.2.2.2 mv hlink hR) (nn_preS hK hw) rfl hn hsz hst (lv_room hW) hdg hcs) hw.2.2 (fun _ _ h => h) (fun _ h => h) (fun q u t H1 locs1 ht hvm hp hB hz hk hS => ?_)
  subst hp
  rw [ht] at hB
  exact kk H1 locs1 ⟨hB, nn_D hw.2.1, hS⟩
theorem nn_callvV (S : CallFix p m c cc nL s args nn_B own) {y : MethodName} {bytes : ByteArray} {maxL : Nat} {ret : Option FieldType} {n d index : Nat} {As : List Value}  {i ci : Nat} {fs : List Value} {q0 : vw_C} (he : nn_ce cy ad τ i = .inr (ci, fs)) (hi : i < 151) (hc : vwCl[ci]? = some q0) (hq : q0.1 = y.cls) (hM : nn_V l y (nn_ws y bytes maxL ret) (nn_R d) D cy ad A (.ref (ad i) :: As) τ τ') (mv : nn_mV y bytes maxL ret n) (hlink : Cond.methodLink own index y ∈ nn_B) (hK : nn_K D cy s) (hw : nn_W D cy ad A s.heap τ H locs) (hR : d + 1 ≤ R.frames ∧ 8 + (maxL + 11) + 100 * d ≤ R.locals) (hcs : cells ≤ R.cells ∧ slots ≤ R.slots) (hn : As.length = n) (hsz : ls.size = nL) (hst : st = As.reverse ++ .ref (ad i) :: rest) (hW : (rest.map fun v => v.category).sum ≤ 8) (hdg : decode cc pc = .ok (.invokevirtual index, 3)) (kk : ∀ (H : Heap) (locs : List Loc), nn_W D cy ad A s.heap τ' H locs → W p l e R s m args below meth c H locs cells slots Q (F0 m (pc + 3) ls rest)) : W p l e R s m args below meth c H locs cells slots Q (F0 m pc ls st) := by
  refine va_callv (va_runV (As := As) (rest := rest) S hM (nn_cwV S.2.2.2.2 mv hlink hR) (nn_preV hK hw he hi hc hq) rfl hn hsz hst (lv_room hW) hdg hcs) hw.2.2 (fun _ _ h => h) (fun _ h => h) (fun u t H1 locs1 ht hvm hp hB hz hk hS => ?_)
  rw [ht] at hB
  exact kk H1 locs1 ⟨hB, nn_D hw.2.1, hS⟩
theorem nn_callvS (S : CallFix p m c cc nL s args nn_B own) {y : MethodName} {bytes : ByteArray} {maxL : Nat} {ret : Option FieldType} {n d index : Nat} {As : List Value}  (hM : nn_V l y (nn_ws y bytes maxL ret) (nn_R d) D cy ad A As τ τ') (mv : nn_mS' y bytes maxL ret n) (hlink : Cond.methodLink own index y ∈ nn_B) (hK : nn_K D cy s) (hw : nn_W D cy ad A s.heap τ H locs) (hR : d + 1 ≤ R.frames ∧ 8 + (maxL + 11) + 100 * d ≤ R.locals) (hcs : cells ≤ R.cells ∧ slots ≤ R.slots) (hn : As.length = n) (hsz : ls.size = nL) (hst : st = As.reverse ++ rest) (hW : (rest.map fun v => v.category).sum ≤ 8) (hdg : decode cc pc = .ok (.invokestatic index, 3)) (kk : ∀ (H : Heap) (locs : List Loc), nn_W D cy ad A s.heap τ' H locs → W p l e R s m args below meth c H locs cells slots Q (F0 m (pc + 3) ls rest)) : W p l e R s m args below meth c H locs cells slots Q (F0 m pc ls st) := by
  refine va_callv (va_runS (As := As) (rest := rest) S hM (nn_cwS S.2.2.2.2 mv hlink hR) (nn_preS hK hw) rfl hn hsz hst (lv_room hW) hdg hcs) hw.2.2 (fun _ _ h => h) (fun _ h => h) (fun u t H1 locs1 ht hvm hp hB hz hk hS => ?_)
  rw [ht] at hB
  exact kk H1 locs1 ⟨hB, nn_D hw.2.1, hS⟩
theorem nn_callvN (S : CallFix p m c cc nL s args nn_B own) {y : MethodName} {bytes : ByteArray} {maxL : Nat} {ret : Option FieldType} {n d index : Nat} {host : String} {As : List Value}  (hM : nn_V l y (nn_ws y bytes maxL ret) (nn_R d) D cy ad A As τ τ') (mv : nn_mS' y bytes maxL ret n) (hlink : va_Nw (.methodLinkNest own index y host) s) (hK : nn_K D cy s) (hw : nn_W D cy ad A s.heap τ H locs) (hR : d + 1 ≤ R.frames ∧ 8 + (maxL + 11) + 100 * d ≤ R.locals) (hcs : cells ≤ R.cells ∧ slots ≤ R.slots) (hn : As.length = n) (hsz : ls.size = nL) (hst : st = As.reverse ++ rest) (hW : (rest.map fun v => v.category).sum ≤ 8) (hdg : decode cc pc = .ok (.invokestatic index, 3)) (kk : ∀ (H : Heap) (locs : List Loc), nn_W D cy ad A s.heap τ' H locs → W p l e R s m args below meth c H locs cells slots Q (F0 m (pc + 3) ls rest)) : W p l e R s m args below meth c H locs cells slots Q (F0 m pc ls st) := by
  refine va_callv (va_runSN (As := As) (rest := rest) S hM (nn_cwN S.2.2.2.2 mv hlink hR) (nn_preS hK hw) rfl hn hsz hst (lv_room hW) hdg hcs) hw.2.2 (fun _ _ h => h) (fun _ h => h) (fun u t H1 locs1 ht hvm hp hB hz hk hS => ?_)
  rw [ht] at hB
  exact kk H1 locs1 ⟨hB, nn_D hw.2.1, hS⟩
theorem gf_Vl_kinds (S : CallFix p m c cc nL s args nn_B own) (hK : nn_K D cy s) (hw : nn_W D cy ad A s.heap τ H locs) {v : Nat} (hv : v < 19) {index : Nat} (hlink : Cond.fieldLink own index "NineNoons$Valley" "kinds" "[I" ∈ nn_B) (hdg : decode cc pc = .ok (.getfield index, 3)) (kk : W p l e R s m args below meth c H locs cells slots Q (F0 m (pc + 3) ls (.ref (ad (6*v+1)) :: rest))) : W p l e R s m args below meth c H locs cells slots Q (F0 m pc ls (.ref (ad (6*v)) :: rest)) := nn_get S hK hw (ce_V (k := 0) hv (by decide)) (by omega) rfl nnin5 0 (by decide) hlink rfl hdg kk
theorem gf_Vl_minutes (S : CallFix p m c cc nL s args nn_B own) (hK : nn_K D cy s) (hw : nn_W D cy ad A s.heap τ H locs) {v : Nat} (hv : v < 19) {index : Nat} (hlink : Cond.fieldLink own index "NineNoons$Valley" "minutes" "[I" ∈ nn_B) (hdg : decode cc pc = .ok (.getfield index, 3)) (kk : W p l e R s m args below meth c H locs cells slots Q (F0 m (pc + 3) ls (.ref (ad (6*v+2)) :: rest))) : W p l e R s m args below meth c H locs cells slots Q (F0 m pc ls (.ref (ad (6*v)) :: rest)) := nn_get S hK hw (ce_V (k := 0) hv (by decide)) (by omega) rfl nnin5 1 (by decide) hlink rfl hdg kk
theorem gf_Vl_drifts (S : CallFix p m c cc nL s args nn_B own) (hK : nn_K D cy s) (hw : nn_W D cy ad A s.heap τ H locs) {v : Nat} (hv : v < 19) {index : Nat} (hlink : Cond.fieldLink own index "NineNoons$Valley" "drifts" "[I" ∈ nn_B) (hdg : decode cc pc = .ok (.getfield index, 3)) (kk : W p l e R s m args below meth c H locs cells slots Q (F0 m (pc + 3) ls (.ref (ad (6*v+3)) :: rest))) : W p l e R s m args below meth c H locs cells slots Q (F0 m pc ls (.ref (ad (6*v)) :: rest)) := nn_get S hK hw (ce_V (k := 0) hv (by decide)) (by omega) rfl nnin5 2 (by decide) hlink rfl hdg kk
theorem gf_Vl_miles (S : CallFix p m c cc nL s args nn_B own) (hK : nn_K D cy s) (hw : nn_W D cy ad A s.heap τ H locs) {v : Nat} (hv : v < 19) {index : Nat} (hlink : Cond.fieldLink own index "NineNoons$Valley" "miles" "[I" ∈ nn_B) (hdg : decode cc pc = .ok (.getfield index, 3)) (kk : W p l e R s m args below meth c H locs cells slots Q (F0 m (pc + 3) ls (.ref (ad (6*v+4)) :: rest))) : W p l e R s m args below meth c H locs cells slots Q (F0 m pc ls (.ref (ad (6*v)) :: rest)) := nn_get S hK hw (ce_V (k := 0) hv (by decide)) (by omega) rfl nnin5 3 (by decide) hlink rfl hdg kk
theorem gf_Vl_shifts (S : CallFix p m c cc nL s args nn_B own) (hK : nn_K D cy s) (hw : nn_W D cy ad A s.heap τ H locs) {v : Nat} (hv : v < 19) {index : Nat} (hlink : Cond.fieldLink own index "NineNoons$Valley" "shifts" "[I" ∈ nn_B) (hdg : decode cc pc = .ok (.getfield index, 3)) (kk : W p l e R s m args below meth c H locs cells slots Q (F0 m (pc + 3) ls (.ref (ad (6*v+5)) :: rest))) : W p l e R s m args below meth c H locs cells slots Q (F0 m pc ls (.ref (ad (6*v)) :: rest)) := nn_get S hK hw (ce_V (k := 0) hv (by decide)) (by omega) rfl nnin5 4 (by decide) hlink rfl hdg kk
theorem gf_Vl_villages (S : CallFix p m c cc nL s args nn_B own) (hK : nn_K D cy s) (hw : nn_W D cy ad A s.heap τ H locs) {v : Nat} (hv : v < 19) {x : nVl} (hx : gV τ v = x) {index : Nat} (hlink : Cond.fieldLink own index "NineNoons$Valley" "villages" "I" ∈ nn_B) (hdg : decode cc pc = .ok (.getfield index, 3)) (kk : W p l e R s m args below meth c H locs cells slots Q (F0 m (pc + 3) ls (.int (g_Vl_villages x) :: rest))) : W p l e R s m args below meth c H locs cells slots Q (F0 m pc ls (.ref (ad (6*v)) :: rest)) := by
  subst hx
  exact nn_get S hK hw (ce_V (k := 0) hv (by decide)) (by omega) rfl nnin5 5 (by decide) hlink rfl hdg kk
theorem pf_Vl_villages (S : CallFix p m c cc nL s args nn_B own) (hK : nn_K D cy s) (hw : nn_W D cy ad A s.heap τ H locs) {v : Nat} (hv : v < 19) {x : nVl} (hx : gV τ v = x) {y : Int32} (hτ : sV τ v (s_Vl_villages x y) = τ') {index : Nat} (hlink : Cond.fieldLink own index "NineNoons$Valley" "villages" "I" ∈ nn_B) (hdg : decode cc pc = .ok (.putfield index, 3)) (kk : ∀ (H : Heap) (locs : List Loc), nn_W D cy ad A s.heap τ' H locs → W p l e R s m args below meth c H locs cells slots Q (F0 m (pc + 3) ls rest)) : W p l e R s m args below meth c H locs cells slots Q (F0 m pc ls (.int y :: .ref (ad (6*v)) :: rest)) := by
  subst hx; subst hτ
  exact nn_put S hK hw (ce_V (k := 0) hv (by decide)) (by omega) rfl nnin5 tyX5 tyX5_ok nmX5 5 (by decide) hlink rfl rfl rfl (Nat.le_of_ble_eq_true rfl) (un_V (k := 0) hv (by decide) (fun j hj hne => by rcases j with _ | _ | _ | _ | _ | _ | j <;> first | rfl | exact absurd rfl hne | omega)) hdg kk
theorem gf_Vl_day (S : CallFix p m c cc nL s args nn_B own) (hK : nn_K D cy s) (hw : nn_W D cy ad A s.heap τ H locs) {v : Nat} (hv : v < 19) {x : nVl} (hx : gV τ v = x) {index : Nat} (hlink : Cond.fieldLink own index "NineNoons$Valley" "day" "I" ∈ nn_B) (hdg : decode cc pc = .ok (.getfield index, 3)) (kk : W p l e R s m args below meth c H locs cells slots Q (F0 m (pc + 3) ls (.int (g_Vl_day x) :: rest))) : W p l e R s m args below meth c H locs cells slots Q (F0 m pc ls (.ref (ad (6*v)) :: rest)) := by
  subst hx
  exact nn_get S hK hw (ce_V (k := 0) hv (by decide)) (by omega) rfl nnin5 6 (by decide) hlink rfl hdg kk
theorem pf_Vl_day (S : CallFix p m c cc nL s args nn_B own) (hK : nn_K D cy s) (hw : nn_W D cy ad A s.heap τ H locs) {v : Nat} (hv : v < 19) {x : nVl} (hx : gV τ v = x) {y : Int32} (hτ : sV τ v (s_Vl_day x y) = τ') {index : Nat} (hlink : Cond.fieldLink own index "NineNoons$Valley" "day" "I" ∈ nn_B) (hdg : decode cc pc = .ok (.putfield index, 3)) (kk : ∀ (H : Heap) (locs : List Loc), nn_W D cy ad A s.heap τ' H locs → W p l e R s m args below meth c H locs cells slots Q (F0 m (pc + 3) ls rest)) : W p l e R s m args below meth c H locs cells slots Q (F0 m pc ls (.int y :: .ref (ad (6*v)) :: rest)) := by
  subst hx; subst hτ
  exact nn_put S hK hw (ce_V (k := 0) hv (by decide)) (by omega) rfl nnin5 tyX5 tyX5_ok nmX5 6 (by decide) hlink rfl rfl rfl (Nat.le_of_ble_eq_true rfl) (un_V (k := 0) hv (by decide) (fun j hj hne => by rcases j with _ | _ | _ | _ | _ | _ | j <;> first | rfl | exact absurd rfl hne | omega)) hdg kk
theorem gf_Vl_draw (S : CallFix p m c cc nL s args nn_B own) (hK : nn_K D cy s) (hw : nn_W D cy ad A s.heap τ H locs) {v : Nat} (hv : v < 19) {x : nVl} (hx : gV τ v = x) {index : Nat} (hlink : Cond.fieldLink own index "NineNoons$Valley" "draw" "I" ∈ nn_B) (hdg : decode cc pc = .ok (.getfield index, 3)) (kk : W p l e R s m args below meth c H locs cells slots Q (F0 m (pc + 3) ls (.int (g_Vl_draw x) :: rest))) : W p l e R s m args below meth c H locs cells slots Q (F0 m pc ls (.ref (ad (6*v)) :: rest)) := by
  subst hx
  exact nn_get S hK hw (ce_V (k := 0) hv (by decide)) (by omega) rfl nnin5 7 (by decide) hlink rfl hdg kk
theorem pf_Vl_draw (S : CallFix p m c cc nL s args nn_B own) (hK : nn_K D cy s) (hw : nn_W D cy ad A s.heap τ H locs) {v : Nat} (hv : v < 19) {x : nVl} (hx : gV τ v = x) {y : Int32} (hτ : sV τ v (s_Vl_draw x y) = τ') {index : Nat} (hlink : Cond.fieldLink own index "NineNoons$Valley" "draw" "I" ∈ nn_B) (hdg : decode cc pc = .ok (.putfield index, 3)) (kk : ∀ (H : Heap) (locs : List Loc), nn_W D cy ad A s.heap τ' H locs → W p l e R s m args below meth c H locs cells slots Q (F0 m (pc + 3) ls rest)) : W p l e R s m args below meth c H locs cells slots Q (F0 m pc ls (.int y :: .ref (ad (6*v)) :: rest)) := by
  subst hx; subst hτ
  exact nn_put S hK hw (ce_V (k := 0) hv (by decide)) (by omega) rfl nnin5 tyX5 tyX5_ok nmX5 7 (by decide) hlink rfl rfl rfl (Nat.le_of_ble_eq_true rfl) (un_V (k := 0) hv (by decide) (fun j hj hne => by rcases j with _ | _ | _ | _ | _ | _ | j <;> first | rfl | exact absurd rfl hne | omega)) hdg kk
theorem gf_Hi_past (S : CallFix p m c cc nL s args nn_B own) (hK : nn_K D cy s) (hw : nn_W D cy ad A s.heap τ H locs) {v : Nat} (hv : v < 2) {index : Nat} (hlink : Cond.fieldLink own index "NineNoons$History" "past" "[LNineNoons$Valley;" ∈ nn_B) (hdg : decode cc pc = .ok (.getfield index, 3)) (kk : W p l e R s m args below meth c H locs cells slots Q (F0 m (pc + 3) ls (.ref (ad (115+2*v)) :: rest))) : W p l e R s m args below meth c H locs cells slots Q (F0 m pc ls (.ref (ad (114+2*v)) :: rest)) := nn_get S hK hw (ce_H (k := 0) hv (by decide)) (by omega) rfl nnin1 0 (by decide) hlink rfl hdg kk
theorem gf_Hi_next (S : CallFix p m c cc nL s args nn_B own) (hK : nn_K D cy s) (hw : nn_W D cy ad A s.heap τ H locs) {v : Nat} (hv : v < 2) {x : nHi} (hx : gH τ v = x) {index : Nat} (hlink : Cond.fieldLink own index "NineNoons$History" "next" "I" ∈ nn_B) (hdg : decode cc pc = .ok (.getfield index, 3)) (kk : W p l e R s m args below meth c H locs cells slots Q (F0 m (pc + 3) ls (.int (g_Hi_next x) :: rest))) : W p l e R s m args below meth c H locs cells slots Q (F0 m pc ls (.ref (ad (114+2*v)) :: rest)) := by
  subst hx
  exact nn_get S hK hw (ce_H (k := 0) hv (by decide)) (by omega) rfl nnin1 1 (by decide) hlink rfl hdg kk
theorem pf_Hi_next (S : CallFix p m c cc nL s args nn_B own) (hK : nn_K D cy s) (hw : nn_W D cy ad A s.heap τ H locs) {v : Nat} (hv : v < 2) {x : nHi} (hx : gH τ v = x) {y : Int32} (hτ : sH τ v (s_Hi_next x y) = τ') {index : Nat} (hlink : Cond.fieldLink own index "NineNoons$History" "next" "I" ∈ nn_B) (hdg : decode cc pc = .ok (.putfield index, 3)) (kk : ∀ (H : Heap) (locs : List Loc), nn_W D cy ad A s.heap τ' H locs → W p l e R s m args below meth c H locs cells slots Q (F0 m (pc + 3) ls rest)) : W p l e R s m args below meth c H locs cells slots Q (F0 m pc ls (.int y :: .ref (ad (114+2*v)) :: rest)) := by
  subst hx; subst hτ
  exact nn_put S hK hw (ce_H (k := 0) hv (by decide)) (by omega) rfl nnin1 tyX1 tyX1_ok nmX1 1 (by decide) hlink rfl rfl rfl (Nat.le_of_ble_eq_true rfl) (un_H (k := 0) hv (by decide) (fun j hj hne => by rcases j with _ | _ | j <;> first | rfl | exact absurd rfl hne | omega)) hdg kk
theorem gf_Hi_known (S : CallFix p m c cc nL s args nn_B own) (hK : nn_K D cy s) (hw : nn_W D cy ad A s.heap τ H locs) {v : Nat} (hv : v < 2) {x : nHi} (hx : gH τ v = x) {index : Nat} (hlink : Cond.fieldLink own index "NineNoons$History" "known" "I" ∈ nn_B) (hdg : decode cc pc = .ok (.getfield index, 3)) (kk : W p l e R s m args below meth c H locs cells slots Q (F0 m (pc + 3) ls (.int (g_Hi_known x) :: rest))) : W p l e R s m args below meth c H locs cells slots Q (F0 m pc ls (.ref (ad (114+2*v)) :: rest)) := by
  subst hx
  exact nn_get S hK hw (ce_H (k := 0) hv (by decide)) (by omega) rfl nnin1 2 (by decide) hlink rfl hdg kk
theorem pf_Hi_known (S : CallFix p m c cc nL s args nn_B own) (hK : nn_K D cy s) (hw : nn_W D cy ad A s.heap τ H locs) {v : Nat} (hv : v < 2) {x : nHi} (hx : gH τ v = x) {y : Int32} (hτ : sH τ v (s_Hi_known x y) = τ') {index : Nat} (hlink : Cond.fieldLink own index "NineNoons$History" "known" "I" ∈ nn_B) (hdg : decode cc pc = .ok (.putfield index, 3)) (kk : ∀ (H : Heap) (locs : List Loc), nn_W D cy ad A s.heap τ' H locs → W p l e R s m args below meth c H locs cells slots Q (F0 m (pc + 3) ls rest)) : W p l e R s m args below meth c H locs cells slots Q (F0 m pc ls (.int y :: .ref (ad (114+2*v)) :: rest)) := by
  subst hx; subst hτ
  exact nn_put S hK hw (ce_H (k := 0) hv (by decide)) (by omega) rfl nnin1 tyX1 tyX1_ok nmX1 2 (by decide) hlink rfl rfl rfl (Nat.le_of_ble_eq_true rfl) (un_H (k := 0) hv (by decide) (fun j hj hne => by rcases j with _ | _ | j <;> first | rfl | exact absurd rfl hne | omega)) hdg kk
theorem gf_Sh_items (S : CallFix p m c cc nL s args nn_B own) (hK : nn_K D cy s) (hw : nn_W D cy ad A s.heap τ H locs) {v : Nat} (hv : v < 4) {index : Nat} (hlink : Cond.fieldLink own index "NineNoons$Sheet" "items" "[J" ∈ nn_B) (hdg : decode cc pc = .ok (.getfield index, 3)) (kk : W p l e R s m args below meth c H locs cells slots Q (F0 m (pc + 3) ls (.ref (ad (129+2*v)) :: rest))) : W p l e R s m args below meth c H locs cells slots Q (F0 m pc ls (.ref (ad (128+2*v)) :: rest)) := nn_get S hK hw (ce_S (k := 0) hv (by decide)) (by omega) rfl nnin3 0 (by decide) hlink rfl hdg kk
theorem gf_Sh_lane (S : CallFix p m c cc nL s args nn_B own) (hK : nn_K D cy s) (hw : nn_W D cy ad A s.heap τ H locs) {v : Nat} (hv : v < 4) {x : nSh} (hx : gSh τ v = x) {index : Nat} (hlink : Cond.fieldLink own index "NineNoons$Sheet" "lane" "I" ∈ nn_B) (hdg : decode cc pc = .ok (.getfield index, 3)) (kk : W p l e R s m args below meth c H locs cells slots Q (F0 m (pc + 3) ls (.int (g_Sh_lane x) :: rest))) : W p l e R s m args below meth c H locs cells slots Q (F0 m pc ls (.ref (ad (128+2*v)) :: rest)) := by
  subst hx
  exact nn_get S hK hw (ce_S (k := 0) hv (by decide)) (by omega) rfl nnin3 1 (by decide) hlink rfl hdg kk
theorem pf_Sh_lane (S : CallFix p m c cc nL s args nn_B own) (hK : nn_K D cy s) (hw : nn_W D cy ad A s.heap τ H locs) {v : Nat} (hv : v < 4) {x : nSh} (hx : gSh τ v = x) {y : Int32} (hτ : sSh τ v (s_Sh_lane x y) = τ') {index : Nat} (hlink : Cond.fieldLink own index "NineNoons$Sheet" "lane" "I" ∈ nn_B) (hdg : decode cc pc = .ok (.putfield index, 3)) (kk : ∀ (H : Heap) (locs : List Loc), nn_W D cy ad A s.heap τ' H locs → W p l e R s m args below meth c H locs cells slots Q (F0 m (pc + 3) ls rest)) : W p l e R s m args below meth c H locs cells slots Q (F0 m pc ls (.int y :: .ref (ad (128+2*v)) :: rest)) := by
  subst hx; subst hτ
  exact nn_put S hK hw (ce_S (k := 0) hv (by decide)) (by omega) rfl nnin3 tyX3 tyX3_ok nmX3 1 (by decide) hlink rfl rfl rfl (Nat.le_of_ble_eq_true rfl) (un_S (k := 0) hv (by decide) (fun j hj hne => by rcases j with _ | _ | j <;> first | rfl | exact absurd rfl hne | omega)) hdg kk
theorem gf_Sh_length (S : CallFix p m c cc nL s args nn_B own) (hK : nn_K D cy s) (hw : nn_W D cy ad A s.heap τ H locs) {v : Nat} (hv : v < 4) {x : nSh} (hx : gSh τ v = x) {index : Nat} (hlink : Cond.fieldLink own index "NineNoons$Sheet" "length" "I" ∈ nn_B) (hdg : decode cc pc = .ok (.getfield index, 3)) (kk : W p l e R s m args below meth c H locs cells slots Q (F0 m (pc + 3) ls (.int (g_Sh_length x) :: rest))) : W p l e R s m args below meth c H locs cells slots Q (F0 m pc ls (.ref (ad (128+2*v)) :: rest)) := by
  subst hx
  exact nn_get S hK hw (ce_S (k := 0) hv (by decide)) (by omega) rfl nnin3 2 (by decide) hlink rfl hdg kk
theorem pf_Sh_length (S : CallFix p m c cc nL s args nn_B own) (hK : nn_K D cy s) (hw : nn_W D cy ad A s.heap τ H locs) {v : Nat} (hv : v < 4) {x : nSh} (hx : gSh τ v = x) {y : Int32} (hτ : sSh τ v (s_Sh_length x y) = τ') {index : Nat} (hlink : Cond.fieldLink own index "NineNoons$Sheet" "length" "I" ∈ nn_B) (hdg : decode cc pc = .ok (.putfield index, 3)) (kk : ∀ (H : Heap) (locs : List Loc), nn_W D cy ad A s.heap τ' H locs → W p l e R s m args below meth c H locs cells slots Q (F0 m (pc + 3) ls rest)) : W p l e R s m args below meth c H locs cells slots Q (F0 m pc ls (.int y :: .ref (ad (128+2*v)) :: rest)) := by
  subst hx; subst hτ
  exact nn_put S hK hw (ce_S (k := 0) hv (by decide)) (by omega) rfl nnin3 tyX3 tyX3_ok nmX3 2 (by decide) hlink rfl rfl rfl (Nat.le_of_ble_eq_true rfl) (un_S (k := 0) hv (by decide) (fun j hj hne => by rcases j with _ | _ | j <;> first | rfl | exact absurd rfl hne | omega)) hdg kk
theorem gf_Ca_order (S : CallFix p m c cc nL s args nn_B own) (hK : nn_K D cy s) (hw : nn_W D cy ad A s.heap τ H locs) {index : Nat} (hlink : Cond.fieldLink own index "NineNoons$Carrier" "order" "[I" ∈ nn_B) (hdg : decode cc pc = .ok (.getfield index, 3)) (kk : W p l e R s m args below meth c H locs cells slots Q (F0 m (pc + 3) ls (.ref (ad (123)) :: rest))) : W p l e R s m args below meth c H locs cells slots Q (F0 m pc ls (.ref (ad (122)) :: rest)) := nn_get S hK hw (ce_O (k := 4) (by decide)) (by decide) rfl nnin0 0 (by decide) hlink rfl hdg kk
theorem gf_Ca_bestOrder (S : CallFix p m c cc nL s args nn_B own) (hK : nn_K D cy s) (hw : nn_W D cy ad A s.heap τ H locs) {index : Nat} (hlink : Cond.fieldLink own index "NineNoons$Carrier" "bestOrder" "[I" ∈ nn_B) (hdg : decode cc pc = .ok (.getfield index, 3)) (kk : W p l e R s m args below meth c H locs cells slots Q (F0 m (pc + 3) ls (.ref (ad (124)) :: rest))) : W p l e R s m args below meth c H locs cells slots Q (F0 m pc ls (.ref (ad (122)) :: rest)) := nn_get S hK hw (ce_O (k := 4) (by decide)) (by decide) rfl nnin0 1 (by decide) hlink rfl hdg kk
theorem gf_Ca_bestTime (S : CallFix p m c cc nL s args nn_B own) (hK : nn_K D cy s) (hw : nn_W D cy ad A s.heap τ H locs) {x : nCa} (hx : gCa τ = x) {index : Nat} (hlink : Cond.fieldLink own index "NineNoons$Carrier" "bestTime" "I" ∈ nn_B) (hdg : decode cc pc = .ok (.getfield index, 3)) (kk : W p l e R s m args below meth c H locs cells slots Q (F0 m (pc + 3) ls (.int (g_Ca_bestTime x) :: rest))) : W p l e R s m args below meth c H locs cells slots Q (F0 m pc ls (.ref (ad (122)) :: rest)) := by
  subst hx
  exact nn_get S hK hw (ce_O (k := 4) (by decide)) (by decide) rfl nnin0 2 (by decide) hlink rfl hdg kk
theorem pf_Ca_bestTime (S : CallFix p m c cc nL s args nn_B own) (hK : nn_K D cy s) (hw : nn_W D cy ad A s.heap τ H locs) {x : nCa} (hx : gCa τ = x) {y : Int32} (hτ : sCa τ (s_Ca_bestTime x y) = τ') {index : Nat} (hlink : Cond.fieldLink own index "NineNoons$Carrier" "bestTime" "I" ∈ nn_B) (hdg : decode cc pc = .ok (.putfield index, 3)) (kk : ∀ (H : Heap) (locs : List Loc), nn_W D cy ad A s.heap τ' H locs → W p l e R s m args below meth c H locs cells slots Q (F0 m (pc + 3) ls rest)) : W p l e R s m args below meth c H locs cells slots Q (F0 m pc ls (.int y :: .ref (ad (122)) :: rest)) := by
  subst hx; subst hτ
  exact nn_put S hK hw (ce_O (k := 4) (by decide)) (by decide) rfl nnin0 tyX0 tyX0_ok nmX0 2 (by decide) hlink rfl rfl rfl (Nat.le_of_ble_eq_true rfl) (un_O (k := 4) (by decide) (by rfl) (by rfl) (by rfl) (by rfl) (fun j hj hne => by rcases j with _ | _ | _ | _ | _ | _ | _ | _ | _ | _ | j <;> first | rfl | exact absurd rfl hne | omega)) hdg kk
theorem gf_Ca_minutesAMile (S : CallFix p m c cc nL s args nn_B own) (hK : nn_K D cy s) (hw : nn_W D cy ad A s.heap τ H locs) {x : nCa} (hx : gCa τ = x) {index : Nat} (hlink : Cond.fieldLink own index "NineNoons$Carrier" "minutesAMile" "I" ∈ nn_B) (hdg : decode cc pc = .ok (.getfield index, 3)) (kk : W p l e R s m args below meth c H locs cells slots Q (F0 m (pc + 3) ls (.int (g_Ca_minutesAMile x) :: rest))) : W p l e R s m args below meth c H locs cells slots Q (F0 m pc ls (.ref (ad (122)) :: rest)) := by
  subst hx
  exact nn_get S hK hw (ce_O (k := 4) (by decide)) (by decide) rfl nnin0 3 (by decide) hlink rfl hdg kk
theorem pf_Ca_minutesAMile (S : CallFix p m c cc nL s args nn_B own) (hK : nn_K D cy s) (hw : nn_W D cy ad A s.heap τ H locs) {x : nCa} (hx : gCa τ = x) {y : Int32} (hτ : sCa τ (s_Ca_minutesAMile x y) = τ') {index : Nat} (hlink : Cond.fieldLink own index "NineNoons$Carrier" "minutesAMile" "I" ∈ nn_B) (hdg : decode cc pc = .ok (.putfield index, 3)) (kk : ∀ (H : Heap) (locs : List Loc), nn_W D cy ad A s.heap τ' H locs → W p l e R s m args below meth c H locs cells slots Q (F0 m (pc + 3) ls rest)) : W p l e R s m args below meth c H locs cells slots Q (F0 m pc ls (.int y :: .ref (ad (122)) :: rest)) := by
  subst hx; subst hτ
  exact nn_put S hK hw (ce_O (k := 4) (by decide)) (by decide) rfl nnin0 tyX0 tyX0_ok nmX0 3 (by decide) hlink rfl rfl rfl (Nat.le_of_ble_eq_true rfl) (un_O (k := 4) (by decide) (by rfl) (by rfl) (by rfl) (by rfl) (fun j hj hne => by rcases j with _ | _ | _ | _ | _ | _ | _ | _ | _ | _ | j <;> first | rfl | exact absurd rfl hne | omega)) hdg kk
theorem gf_Ta_letters (S : CallFix p m c cc nL s args nn_B own) (hK : nn_K D cy s) (hw : nn_W D cy ad A s.heap τ H locs) {index : Nat} (hlink : Cond.fieldLink own index "NineNoons$Tape" "letters" "[C" ∈ nn_B) (hdg : decode cc pc = .ok (.getfield index, 3)) (kk : W p l e R s m args below meth c H locs cells slots Q (F0 m (pc + 3) ls (.ref (ad (126)) :: rest))) : W p l e R s m args below meth c H locs cells slots Q (F0 m pc ls (.ref (ad (125)) :: rest)) := nn_get S hK hw (ce_O (k := 7) (by decide)) (by decide) rfl nnin4 0 (by decide) hlink rfl hdg kk
theorem gf_Ta_length (S : CallFix p m c cc nL s args nn_B own) (hK : nn_K D cy s) (hw : nn_W D cy ad A s.heap τ H locs) {x : nTa} (hx : gTa τ = x) {index : Nat} (hlink : Cond.fieldLink own index "NineNoons$Tape" "length" "I" ∈ nn_B) (hdg : decode cc pc = .ok (.getfield index, 3)) (kk : W p l e R s m args below meth c H locs cells slots Q (F0 m (pc + 3) ls (.int (g_Ta_length x) :: rest))) : W p l e R s m args below meth c H locs cells slots Q (F0 m pc ls (.ref (ad (125)) :: rest)) := by
  subst hx
  exact nn_get S hK hw (ce_O (k := 7) (by decide)) (by decide) rfl nnin4 1 (by decide) hlink rfl hdg kk
theorem pf_Ta_length (S : CallFix p m c cc nL s args nn_B own) (hK : nn_K D cy s) (hw : nn_W D cy ad A s.heap τ H locs) {x : nTa} (hx : gTa τ = x) {y : Int32} (hτ : sTa τ (s_Ta_length x y) = τ') {index : Nat} (hlink : Cond.fieldLink own index "NineNoons$Tape" "length" "I" ∈ nn_B) (hdg : decode cc pc = .ok (.putfield index, 3)) (kk : ∀ (H : Heap) (locs : List Loc), nn_W D cy ad A s.heap τ' H locs → W p l e R s m args below meth c H locs cells slots Q (F0 m (pc + 3) ls rest)) : W p l e R s m args below meth c H locs cells slots Q (F0 m pc ls (.int y :: .ref (ad (125)) :: rest)) := by
  subst hx; subst hτ
  exact nn_put S hK hw (ce_O (k := 7) (by decide)) (by decide) rfl nnin4 tyX4 tyX4_ok nmX4 1 (by decide) hlink rfl rfl rfl (Nat.le_of_ble_eq_true rfl) (un_O (k := 7) (by decide) (by rfl) (by rfl) (by rfl) (by rfl) (fun j hj hne => by rcases j with _ | _ | _ | _ | _ | _ | _ | _ | _ | _ | j <;> first | rfl | exact absurd rfl hne | omega)) hdg kk
theorem gf_Ta_place (S : CallFix p m c cc nL s args nn_B own) (hK : nn_K D cy s) (hw : nn_W D cy ad A s.heap τ H locs) {x : nTa} (hx : gTa τ = x) {index : Nat} (hlink : Cond.fieldLink own index "NineNoons$Tape" "place" "I" ∈ nn_B) (hdg : decode cc pc = .ok (.getfield index, 3)) (kk : W p l e R s m args below meth c H locs cells slots Q (F0 m (pc + 3) ls (.int (g_Ta_place x) :: rest))) : W p l e R s m args below meth c H locs cells slots Q (F0 m pc ls (.ref (ad (125)) :: rest)) := by
  subst hx
  exact nn_get S hK hw (ce_O (k := 7) (by decide)) (by decide) rfl nnin4 2 (by decide) hlink rfl hdg kk
theorem pf_Ta_place (S : CallFix p m c cc nL s args nn_B own) (hK : nn_K D cy s) (hw : nn_W D cy ad A s.heap τ H locs) {x : nTa} (hx : gTa τ = x) {y : Int32} (hτ : sTa τ (s_Ta_place x y) = τ') {index : Nat} (hlink : Cond.fieldLink own index "NineNoons$Tape" "place" "I" ∈ nn_B) (hdg : decode cc pc = .ok (.putfield index, 3)) (kk : ∀ (H : Heap) (locs : List Loc), nn_W D cy ad A s.heap τ' H locs → W p l e R s m args below meth c H locs cells slots Q (F0 m (pc + 3) ls rest)) : W p l e R s m args below meth c H locs cells slots Q (F0 m pc ls (.int y :: .ref (ad (125)) :: rest)) := by
  subst hx; subst hτ
  exact nn_put S hK hw (ce_O (k := 7) (by decide)) (by decide) rfl nnin4 tyX4 tyX4_ok nmX4 2 (by decide) hlink rfl rfl rfl (Nat.le_of_ble_eq_true rfl) (un_O (k := 7) (by decide) (by rfl) (by rfl) (by rfl) (by rfl) (fun j hj hne => by rcases j with _ | _ | _ | _ | _ | _ | _ | _ | _ | _ | j <;> first | rfl | exact absurd rfl hne | omega)) hdg kk
theorem gf_Ta_fault (S : CallFix p m c cc nL s args nn_B own) (hK : nn_K D cy s) (hw : nn_W D cy ad A s.heap τ H locs) {x : nTa} (hx : gTa τ = x) {index : Nat} (hlink : Cond.fieldLink own index "NineNoons$Tape" "fault" "I" ∈ nn_B) (hdg : decode cc pc = .ok (.getfield index, 3)) (kk : W p l e R s m args below meth c H locs cells slots Q (F0 m (pc + 3) ls (.int (g_Ta_fault x) :: rest))) : W p l e R s m args below meth c H locs cells slots Q (F0 m pc ls (.ref (ad (125)) :: rest)) := by
  subst hx
  exact nn_get S hK hw (ce_O (k := 7) (by decide)) (by decide) rfl nnin4 3 (by decide) hlink rfl hdg kk
theorem pf_Ta_fault (S : CallFix p m c cc nL s args nn_B own) (hK : nn_K D cy s) (hw : nn_W D cy ad A s.heap τ H locs) {x : nTa} (hx : gTa τ = x) {y : Int32} (hτ : sTa τ (s_Ta_fault x y) = τ') {index : Nat} (hlink : Cond.fieldLink own index "NineNoons$Tape" "fault" "I" ∈ nn_B) (hdg : decode cc pc = .ok (.putfield index, 3)) (kk : ∀ (H : Heap) (locs : List Loc), nn_W D cy ad A s.heap τ' H locs → W p l e R s m args below meth c H locs cells slots Q (F0 m (pc + 3) ls rest)) : W p l e R s m args below meth c H locs cells slots Q (F0 m pc ls (.int y :: .ref (ad (125)) :: rest)) := by
  subst hx; subst hτ
  exact nn_put S hK hw (ce_O (k := 7) (by decide)) (by decide) rfl nnin4 tyX4 tyX4_ok nmX4 3 (by decide) hlink rfl rfl rfl (Nat.le_of_ble_eq_true rfl) (un_O (k := 7) (by decide) (by rfl) (by rfl) (by rfl) (by rfl) (fun j hj hne => by rcases j with _ | _ | _ | _ | _ | _ | _ | _ | _ | _ | j <;> first | rfl | exact absurd rfl hne | omega)) hdg kk
theorem gf_Md_now (S : CallFix p m c cc nL s args nn_B own) (hK : nn_K D cy s) (hw : nn_W D cy ad A s.heap τ H locs) {index : Nat} (hlink : Cond.fieldLink own index "NineNoonsModel" "now" "[I" ∈ nn_B) (hdg : decode cc pc = .ok (.getfield index, 3)) (kk : W p l e R s m args below meth c H locs cells slots Q (F0 m (pc + 3) ls (.ref (ad (137)) :: rest))) : W p l e R s m args below meth c H locs cells slots Q (F0 m pc ls (.ref (ad (136)) :: rest)) := nn_get S hK hw (ce_M (k := 0)) (by decide) rfl nnin7 0 (by decide) hlink rfl hdg kk
theorem gf_Md_later (S : CallFix p m c cc nL s args nn_B own) (hK : nn_K D cy s) (hw : nn_W D cy ad A s.heap τ H locs) {index : Nat} (hlink : Cond.fieldLink own index "NineNoonsModel" "later" "[I" ∈ nn_B) (hdg : decode cc pc = .ok (.getfield index, 3)) (kk : W p l e R s m args below meth c H locs cells slots Q (F0 m (pc + 3) ls (.ref (ad (138)) :: rest))) : W p l e R s m args below meth c H locs cells slots Q (F0 m pc ls (.ref (ad (136)) :: rest)) := nn_get S hK hw (ce_M (k := 0)) (by decide) rfl nnin7 1 (by decide) hlink rfl hdg kk
theorem gf_Md_tape (S : CallFix p m c cc nL s args nn_B own) (hK : nn_K D cy s) (hw : nn_W D cy ad A s.heap τ H locs) {index : Nat} (hlink : Cond.fieldLink own index "NineNoonsModel" "tape" "[I" ∈ nn_B) (hdg : decode cc pc = .ok (.getfield index, 3)) (kk : W p l e R s m args below meth c H locs cells slots Q (F0 m (pc + 3) ls (.ref (ad (139)) :: rest))) : W p l e R s m args below meth c H locs cells slots Q (F0 m pc ls (.ref (ad (136)) :: rest)) := nn_get S hK hw (ce_M (k := 0)) (by decide) rfl nnin7 2 (by decide) hlink rfl hdg kk
theorem gf_Md_typed (S : CallFix p m c cc nL s args nn_B own) (hK : nn_K D cy s) (hw : nn_W D cy ad A s.heap τ H locs) {x : nMd} (hx : gM τ = x) {index : Nat} (hlink : Cond.fieldLink own index "NineNoonsModel" "typed" "I" ∈ nn_B) (hdg : decode cc pc = .ok (.getfield index, 3)) (kk : W p l e R s m args below meth c H locs cells slots Q (F0 m (pc + 3) ls (.int (g_Md_typed x) :: rest))) : W p l e R s m args below meth c H locs cells slots Q (F0 m pc ls (.ref (ad (136)) :: rest)) := by
  subst hx
  exact nn_get S hK hw (ce_M (k := 0)) (by decide) rfl nnin7 3 (by decide) hlink rfl hdg kk
theorem pf_Md_typed (S : CallFix p m c cc nL s args nn_B own) (hK : nn_K D cy s) (hw : nn_W D cy ad A s.heap τ H locs) {x : nMd} (hx : gM τ = x) {y : Int32} (hτ : sM τ (s_Md_typed x y) = τ') {index : Nat} (hlink : Cond.fieldLink own index "NineNoonsModel" "typed" "I" ∈ nn_B) (hdg : decode cc pc = .ok (.putfield index, 3)) (kk : ∀ (H : Heap) (locs : List Loc), nn_W D cy ad A s.heap τ' H locs → W p l e R s m args below meth c H locs cells slots Q (F0 m (pc + 3) ls rest)) : W p l e R s m args below meth c H locs cells slots Q (F0 m pc ls (.int y :: .ref (ad (136)) :: rest)) := by
  subst hx; subst hτ
  exact nn_put S hK hw (ce_M (k := 0)) (by decide) rfl nnin7 tyX7 tyX7_ok nmX7 3 (by decide) hlink rfl rfl rfl (Nat.le_of_ble_eq_true rfl) (un_M (k := 0) (by decide) (fun j hj hne => by rcases j with _ | _ | _ | _ | _ | _ | _ | _ | _ | _ | _ | _ | _ | _ | _ | j <;> first | rfl | exact absurd rfl hne | omega)) hdg kk
theorem gf_Md_place (S : CallFix p m c cc nL s args nn_B own) (hK : nn_K D cy s) (hw : nn_W D cy ad A s.heap τ H locs) {x : nMd} (hx : gM τ = x) {index : Nat} (hlink : Cond.fieldLink own index "NineNoonsModel" "place" "I" ∈ nn_B) (hdg : decode cc pc = .ok (.getfield index, 3)) (kk : W p l e R s m args below meth c H locs cells slots Q (F0 m (pc + 3) ls (.int (g_Md_place x) :: rest))) : W p l e R s m args below meth c H locs cells slots Q (F0 m pc ls (.ref (ad (136)) :: rest)) := by
  subst hx
  exact nn_get S hK hw (ce_M (k := 0)) (by decide) rfl nnin7 4 (by decide) hlink rfl hdg kk
theorem pf_Md_place (S : CallFix p m c cc nL s args nn_B own) (hK : nn_K D cy s) (hw : nn_W D cy ad A s.heap τ H locs) {x : nMd} (hx : gM τ = x) {y : Int32} (hτ : sM τ (s_Md_place x y) = τ') {index : Nat} (hlink : Cond.fieldLink own index "NineNoonsModel" "place" "I" ∈ nn_B) (hdg : decode cc pc = .ok (.putfield index, 3)) (kk : ∀ (H : Heap) (locs : List Loc), nn_W D cy ad A s.heap τ' H locs → W p l e R s m args below meth c H locs cells slots Q (F0 m (pc + 3) ls rest)) : W p l e R s m args below meth c H locs cells slots Q (F0 m pc ls (.int y :: .ref (ad (136)) :: rest)) := by
  subst hx; subst hτ
  exact nn_put S hK hw (ce_M (k := 0)) (by decide) rfl nnin7 tyX7 tyX7_ok nmX7 4 (by decide) hlink rfl rfl rfl (Nat.le_of_ble_eq_true rfl) (un_M (k := 0) (by decide) (fun j hj hne => by rcases j with _ | _ | _ | _ | _ | _ | _ | _ | _ | _ | _ | _ | _ | _ | _ | j <;> first | rfl | exact absurd rfl hne | omega)) hdg kk
theorem gf_Md_isFault (S : CallFix p m c cc nL s args nn_B own) (hK : nn_K D cy s) (hw : nn_W D cy ad A s.heap τ H locs) {x : nMd} (hx : gM τ = x) {index : Nat} (hlink : Cond.fieldLink own index "NineNoonsModel" "isFault" "Z" ∈ nn_B) (hdg : decode cc pc = .ok (.getfield index, 3)) (kk : W p l e R s m args below meth c H locs cells slots Q (F0 m (pc + 3) ls (.int (g_Md_isFault x) :: rest))) : W p l e R s m args below meth c H locs cells slots Q (F0 m pc ls (.ref (ad (136)) :: rest)) := by
  subst hx
  exact nn_get S hK hw (ce_M (k := 0)) (by decide) rfl nnin7 5 (by decide) hlink rfl hdg kk
theorem pf_Md_isFault (S : CallFix p m c cc nL s args nn_B own) (hK : nn_K D cy s) (hw : nn_W D cy ad A s.heap τ H locs) {x : nMd} (hx : gM τ = x) {y : Int32} (hbo : y = 0 ∨ y = 1) (hτ : sM τ (s_Md_isFault x y) = τ') {index : Nat} (hlink : Cond.fieldLink own index "NineNoonsModel" "isFault" "Z" ∈ nn_B) (hdg : decode cc pc = .ok (.putfield index, 3)) (kk : ∀ (H : Heap) (locs : List Loc), nn_W D cy ad A s.heap τ' H locs → W p l e R s m args below meth c H locs cells slots Q (F0 m (pc + 3) ls rest)) : W p l e R s m args below meth c H locs cells slots Q (F0 m pc ls (.int y :: .ref (ad (136)) :: rest)) := by
  subst hx; subst hτ
  exact nn_put S hK hw (ce_M (k := 0)) (by decide) rfl nnin7 tyX7 tyX7_ok nmX7 5 (by decide) hlink rfl (by rcases hbo with rfl | rfl <;> rfl) (by rcases hbo with rfl | rfl <;> rfl) (Nat.le_of_ble_eq_true rfl) (un_M (k := 0) (by decide) (fun j hj hne => by rcases j with _ | _ | _ | _ | _ | _ | _ | _ | _ | _ | _ | _ | _ | _ | _ | j <;> first | rfl | exact absurd rfl hne | omega)) hdg kk
theorem gf_Md_read (S : CallFix p m c cc nL s args nn_B own) (hK : nn_K D cy s) (hw : nn_W D cy ad A s.heap τ H locs) {index : Nat} (hlink : Cond.fieldLink own index "NineNoonsModel" "read" "[I" ∈ nn_B) (hdg : decode cc pc = .ok (.getfield index, 3)) (kk : W p l e R s m args below meth c H locs cells slots Q (F0 m (pc + 3) ls (.ref (ad (140)) :: rest))) : W p l e R s m args below meth c H locs cells slots Q (F0 m pc ls (.ref (ad (136)) :: rest)) := nn_get S hK hw (ce_M (k := 0)) (by decide) rfl nnin7 6 (by decide) hlink rfl hdg kk
theorem gf_Md_undone (S : CallFix p m c cc nL s args nn_B own) (hK : nn_K D cy s) (hw : nn_W D cy ad A s.heap τ H locs) {index : Nat} (hlink : Cond.fieldLink own index "NineNoonsModel" "undone" "[I" ∈ nn_B) (hdg : decode cc pc = .ok (.getfield index, 3)) (kk : W p l e R s m args below meth c H locs cells slots Q (F0 m (pc + 3) ls (.ref (ad (141)) :: rest))) : W p l e R s m args below meth c H locs cells slots Q (F0 m pc ls (.ref (ad (136)) :: rest)) := nn_get S hK hw (ce_M (k := 0)) (by decide) rfl nnin7 7 (by decide) hlink rfl hdg kk
theorem gf_Md_undos (S : CallFix p m c cc nL s args nn_B own) (hK : nn_K D cy s) (hw : nn_W D cy ad A s.heap τ H locs) {x : nMd} (hx : gM τ = x) {index : Nat} (hlink : Cond.fieldLink own index "NineNoonsModel" "undos" "I" ∈ nn_B) (hdg : decode cc pc = .ok (.getfield index, 3)) (kk : W p l e R s m args below meth c H locs cells slots Q (F0 m (pc + 3) ls (.int (g_Md_undos x) :: rest))) : W p l e R s m args below meth c H locs cells slots Q (F0 m pc ls (.ref (ad (136)) :: rest)) := by
  subst hx
  exact nn_get S hK hw (ce_M (k := 0)) (by decide) rfl nnin7 8 (by decide) hlink rfl hdg kk
theorem pf_Md_undos (S : CallFix p m c cc nL s args nn_B own) (hK : nn_K D cy s) (hw : nn_W D cy ad A s.heap τ H locs) {x : nMd} (hx : gM τ = x) {y : Int32} (hτ : sM τ (s_Md_undos x y) = τ') {index : Nat} (hlink : Cond.fieldLink own index "NineNoonsModel" "undos" "I" ∈ nn_B) (hdg : decode cc pc = .ok (.putfield index, 3)) (kk : ∀ (H : Heap) (locs : List Loc), nn_W D cy ad A s.heap τ' H locs → W p l e R s m args below meth c H locs cells slots Q (F0 m (pc + 3) ls rest)) : W p l e R s m args below meth c H locs cells slots Q (F0 m pc ls (.int y :: .ref (ad (136)) :: rest)) := by
  subst hx; subst hτ
  exact nn_put S hK hw (ce_M (k := 0)) (by decide) rfl nnin7 tyX7 tyX7_ok nmX7 8 (by decide) hlink rfl rfl rfl (Nat.le_of_ble_eq_true rfl) (un_M (k := 0) (by decide) (fun j hj hne => by rcases j with _ | _ | _ | _ | _ | _ | _ | _ | _ | _ | _ | _ | _ | _ | _ | j <;> first | rfl | exact absurd rfl hne | omega)) hdg kk
theorem gf_Md_aside (S : CallFix p m c cc nL s args nn_B own) (hK : nn_K D cy s) (hw : nn_W D cy ad A s.heap τ H locs) {index : Nat} (hlink : Cond.fieldLink own index "NineNoonsModel" "aside" "[I" ∈ nn_B) (hdg : decode cc pc = .ok (.getfield index, 3)) (kk : W p l e R s m args below meth c H locs cells slots Q (F0 m (pc + 3) ls (.ref (ad (142)) :: rest))) : W p l e R s m args below meth c H locs cells slots Q (F0 m pc ls (.ref (ad (136)) :: rest)) := nn_get S hK hw (ce_M (k := 0)) (by decide) rfl nnin7 9 (by decide) hlink rfl hdg kk
theorem gf_Md_together (S : CallFix p m c cc nL s args nn_B own) (hK : nn_K D cy s) (hw : nn_W D cy ad A s.heap τ H locs) {x : nMd} (hx : gM τ = x) {index : Nat} (hlink : Cond.fieldLink own index "NineNoonsModel" "together" "I" ∈ nn_B) (hdg : decode cc pc = .ok (.getfield index, 3)) (kk : W p l e R s m args below meth c H locs cells slots Q (F0 m (pc + 3) ls (.int (g_Md_together x) :: rest))) : W p l e R s m args below meth c H locs cells slots Q (F0 m pc ls (.ref (ad (136)) :: rest)) := by
  subst hx
  exact nn_get S hK hw (ce_M (k := 0)) (by decide) rfl nnin7 10 (by decide) hlink rfl hdg kk
theorem pf_Md_together (S : CallFix p m c cc nL s args nn_B own) (hK : nn_K D cy s) (hw : nn_W D cy ad A s.heap τ H locs) {x : nMd} (hx : gM τ = x) {y : Int32} (hτ : sM τ (s_Md_together x y) = τ') {index : Nat} (hlink : Cond.fieldLink own index "NineNoonsModel" "together" "I" ∈ nn_B) (hdg : decode cc pc = .ok (.putfield index, 3)) (kk : ∀ (H : Heap) (locs : List Loc), nn_W D cy ad A s.heap τ' H locs → W p l e R s m args below meth c H locs cells slots Q (F0 m (pc + 3) ls rest)) : W p l e R s m args below meth c H locs cells slots Q (F0 m pc ls (.int y :: .ref (ad (136)) :: rest)) := by
  subst hx; subst hτ
  exact nn_put S hK hw (ce_M (k := 0)) (by decide) rfl nnin7 tyX7 tyX7_ok nmX7 10 (by decide) hlink rfl rfl rfl (Nat.le_of_ble_eq_true rfl) (un_M (k := 0) (by decide) (fun j hj hne => by rcases j with _ | _ | _ | _ | _ | _ | _ | _ | _ | _ | _ | _ | _ | _ | _ | j <;> first | rfl | exact absurd rfl hne | omega)) hdg kk
theorem gf_Md_by (S : CallFix p m c cc nL s args nn_B own) (hK : nn_K D cy s) (hw : nn_W D cy ad A s.heap τ H locs) {index : Nat} (hlink : Cond.fieldLink own index "NineNoonsModel" "by" "[I" ∈ nn_B) (hdg : decode cc pc = .ok (.getfield index, 3)) (kk : W p l e R s m args below meth c H locs cells slots Q (F0 m (pc + 3) ls (.ref (ad (143)) :: rest))) : W p l e R s m args below meth c H locs cells slots Q (F0 m pc ls (.ref (ad (136)) :: rest)) := nn_get S hK hw (ce_M (k := 0)) (by decide) rfl nnin7 11 (by decide) hlink rfl hdg kk
theorem gf_Md_best (S : CallFix p m c cc nL s args nn_B own) (hK : nn_K D cy s) (hw : nn_W D cy ad A s.heap τ H locs) {index : Nat} (hlink : Cond.fieldLink own index "NineNoonsModel" "best" "[I" ∈ nn_B) (hdg : decode cc pc = .ok (.getfield index, 3)) (kk : W p l e R s m args below meth c H locs cells slots Q (F0 m (pc + 3) ls (.ref (ad (144)) :: rest))) : W p l e R s m args below meth c H locs cells slots Q (F0 m pc ls (.ref (ad (136)) :: rest)) := nn_get S hK hw (ce_M (k := 0)) (by decide) rfl nnin7 12 (by decide) hlink rfl hdg kk
theorem gf_Md_order (S : CallFix p m c cc nL s args nn_B own) (hK : nn_K D cy s) (hw : nn_W D cy ad A s.heap τ H locs) {index : Nat} (hlink : Cond.fieldLink own index "NineNoonsModel" "order" "[I" ∈ nn_B) (hdg : decode cc pc = .ok (.getfield index, 3)) (kk : W p l e R s m args below meth c H locs cells slots Q (F0 m (pc + 3) ls (.ref (ad (145)) :: rest))) : W p l e R s m args below meth c H locs cells slots Q (F0 m pc ls (.ref (ad (136)) :: rest)) := nn_get S hK hw (ce_M (k := 0)) (by decide) rfl nnin7 13 (by decide) hlink rfl hdg kk
theorem gf_Md_kept (S : CallFix p m c cc nL s args nn_B own) (hK : nn_K D cy s) (hw : nn_W D cy ad A s.heap τ H locs) {index : Nat} (hlink : Cond.fieldLink own index "NineNoonsModel" "kept" "[I" ∈ nn_B) (hdg : decode cc pc = .ok (.getfield index, 3)) (kk : W p l e R s m args below meth c H locs cells slots Q (F0 m (pc + 3) ls (.ref (ad (146)) :: rest))) : W p l e R s m args below meth c H locs cells slots Q (F0 m pc ls (.ref (ad (136)) :: rest)) := nn_get S hK hw (ce_M (k := 0)) (by decide) rfl nnin7 14 (by decide) hlink rfl hdg kk
theorem gf_Md_keptUndos (S : CallFix p m c cc nL s args nn_B own) (hK : nn_K D cy s) (hw : nn_W D cy ad A s.heap τ H locs) {x : nMd} (hx : gM τ = x) {index : Nat} (hlink : Cond.fieldLink own index "NineNoonsModel" "keptUndos" "I" ∈ nn_B) (hdg : decode cc pc = .ok (.getfield index, 3)) (kk : W p l e R s m args below meth c H locs cells slots Q (F0 m (pc + 3) ls (.int (g_Md_keptUndos x) :: rest))) : W p l e R s m args below meth c H locs cells slots Q (F0 m pc ls (.ref (ad (136)) :: rest)) := by
  subst hx
  exact nn_get S hK hw (ce_M (k := 0)) (by decide) rfl nnin7 15 (by decide) hlink rfl hdg kk
theorem pf_Md_keptUndos (S : CallFix p m c cc nL s args nn_B own) (hK : nn_K D cy s) (hw : nn_W D cy ad A s.heap τ H locs) {x : nMd} (hx : gM τ = x) {y : Int32} (hτ : sM τ (s_Md_keptUndos x y) = τ') {index : Nat} (hlink : Cond.fieldLink own index "NineNoonsModel" "keptUndos" "I" ∈ nn_B) (hdg : decode cc pc = .ok (.putfield index, 3)) (kk : ∀ (H : Heap) (locs : List Loc), nn_W D cy ad A s.heap τ' H locs → W p l e R s m args below meth c H locs cells slots Q (F0 m (pc + 3) ls rest)) : W p l e R s m args below meth c H locs cells slots Q (F0 m pc ls (.int y :: .ref (ad (136)) :: rest)) := by
  subst hx; subst hτ
  exact nn_put S hK hw (ce_M (k := 0)) (by decide) rfl nnin7 tyX7 tyX7_ok nmX7 15 (by decide) hlink rfl rfl rfl (Nat.le_of_ble_eq_true rfl) (un_M (k := 0) (by decide) (fun j hj hne => by rcases j with _ | _ | _ | _ | _ | _ | _ | _ | _ | _ | _ | _ | _ | _ | _ | j <;> first | rfl | exact absurd rfl hne | omega)) hdg kk
theorem gf_Md_isKept (S : CallFix p m c cc nL s args nn_B own) (hK : nn_K D cy s) (hw : nn_W D cy ad A s.heap τ H locs) {x : nMd} (hx : gM τ = x) {index : Nat} (hlink : Cond.fieldLink own index "NineNoonsModel" "isKept" "Z" ∈ nn_B) (hdg : decode cc pc = .ok (.getfield index, 3)) (kk : W p l e R s m args below meth c H locs cells slots Q (F0 m (pc + 3) ls (.int (g_Md_isKept x) :: rest))) : W p l e R s m args below meth c H locs cells slots Q (F0 m pc ls (.ref (ad (136)) :: rest)) := by
  subst hx
  exact nn_get S hK hw (ce_M (k := 0)) (by decide) rfl nnin7 16 (by decide) hlink rfl hdg kk
theorem pf_Md_isKept (S : CallFix p m c cc nL s args nn_B own) (hK : nn_K D cy s) (hw : nn_W D cy ad A s.heap τ H locs) {x : nMd} (hx : gM τ = x) {y : Int32} (hbo : y = 0 ∨ y = 1) (hτ : sM τ (s_Md_isKept x y) = τ') {index : Nat} (hlink : Cond.fieldLink own index "NineNoonsModel" "isKept" "Z" ∈ nn_B) (hdg : decode cc pc = .ok (.putfield index, 3)) (kk : ∀ (H : Heap) (locs : List Loc), nn_W D cy ad A s.heap τ' H locs → W p l e R s m args below meth c H locs cells slots Q (F0 m (pc + 3) ls rest)) : W p l e R s m args below meth c H locs cells slots Q (F0 m pc ls (.int y :: .ref (ad (136)) :: rest)) := by
  subst hx; subst hτ
  exact nn_put S hK hw (ce_M (k := 0)) (by decide) rfl nnin7 tyX7 tyX7_ok nmX7 16 (by decide) hlink rfl (by rcases hbo with rfl | rfl <;> rfl) (by rcases hbo with rfl | rfl <;> rfl) (Nat.le_of_ble_eq_true rfl) (un_M (k := 0) (by decide) (fun j hj hne => by rcases j with _ | _ | _ | _ | _ | _ | _ | _ | _ | _ | _ | _ | _ | _ | _ | j <;> first | rfl | exact absurd rfl hne | omega)) hdg kk
theorem gf_Md_lanes (S : CallFix p m c cc nL s args nn_B own) (hK : nn_K D cy s) (hw : nn_W D cy ad A s.heap τ H locs) {index : Nat} (hlink : Cond.fieldLink own index "NineNoonsModel" "lanes" "[I" ∈ nn_B) (hdg : decode cc pc = .ok (.getfield index, 3)) (kk : W p l e R s m args below meth c H locs cells slots Q (F0 m (pc + 3) ls (.ref (ad (147)) :: rest))) : W p l e R s m args below meth c H locs cells slots Q (F0 m pc ls (.ref (ad (136)) :: rest)) := nn_get S hK hw (ce_M (k := 0)) (by decide) rfl nnin7 17 (by decide) hlink rfl hdg kk
theorem gf_Md_sizes (S : CallFix p m c cc nL s args nn_B own) (hK : nn_K D cy s) (hw : nn_W D cy ad A s.heap τ H locs) {index : Nat} (hlink : Cond.fieldLink own index "NineNoonsModel" "sizes" "[I" ∈ nn_B) (hdg : decode cc pc = .ok (.getfield index, 3)) (kk : W p l e R s m args below meth c H locs cells slots Q (F0 m (pc + 3) ls (.ref (ad (148)) :: rest))) : W p l e R s m args below meth c H locs cells slots Q (F0 m pc ls (.ref (ad (136)) :: rest)) := nn_get S hK hw (ce_M (k := 0)) (by decide) rfl nnin7 18 (by decide) hlink rfl hdg kk
theorem gf_Md_items (S : CallFix p m c cc nL s args nn_B own) (hK : nn_K D cy s) (hw : nn_W D cy ad A s.heap τ H locs) {index : Nat} (hlink : Cond.fieldLink own index "NineNoonsModel" "items" "[J" ∈ nn_B) (hdg : decode cc pc = .ok (.getfield index, 3)) (kk : W p l e R s m args below meth c H locs cells slots Q (F0 m (pc + 3) ls (.ref (ad (149)) :: rest))) : W p l e R s m args below meth c H locs cells slots Q (F0 m pc ls (.ref (ad (136)) :: rest)) := nn_get S hK hw (ce_M (k := 0)) (by decide) rfl nnin7 19 (by decide) hlink rfl hdg kk
theorem gf_Md_moved (S : CallFix p m c cc nL s args nn_B own) (hK : nn_K D cy s) (hw : nn_W D cy ad A s.heap τ H locs) {index : Nat} (hlink : Cond.fieldLink own index "NineNoonsModel" "moved" "[J" ∈ nn_B) (hdg : decode cc pc = .ok (.getfield index, 3)) (kk : W p l e R s m args below meth c H locs cells slots Q (F0 m (pc + 3) ls (.ref (ad (150)) :: rest))) : W p l e R s m args below meth c H locs cells slots Q (F0 m pc ls (.ref (ad (136)) :: rest)) := nn_get S hK hw (ce_M (k := 0)) (by decide) rfl nnin7 20 (by decide) hlink rfl hdg kk
theorem gf_Nn_now (S : CallFix p m c cc nL s args nn_B own) (hK : nn_K D cy s) (hw : nn_W D cy ad A s.heap τ H locs) {index : Nat} (hlink : Cond.fieldLink own index "NineNoons" "now" "LNineNoons$Valley;" ∈ nn_B) (hdg : decode cc pc = .ok (.getfield index, 3)) (kk : W p l e R s m args below meth c H locs cells slots Q (F0 m (pc + 3) ls (.ref (ad (0)) :: rest))) : W p l e R s m args below meth c H locs cells slots Q (F0 m pc ls (.ref (ad (118)) :: rest)) := nn_get S hK hw (ce_O (k := 0) (by decide)) (by decide) rfl nnin6 0 (by decide) hlink rfl hdg kk
theorem gf_Nn_history (S : CallFix p m c cc nL s args nn_B own) (hK : nn_K D cy s) (hw : nn_W D cy ad A s.heap τ H locs) {index : Nat} (hlink : Cond.fieldLink own index "NineNoons" "history" "LNineNoons$History;" ∈ nn_B) (hdg : decode cc pc = .ok (.getfield index, 3)) (kk : W p l e R s m args below meth c H locs cells slots Q (F0 m (pc + 3) ls (.ref (ad (114)) :: rest))) : W p l e R s m args below meth c H locs cells slots Q (F0 m pc ls (.ref (ad (118)) :: rest)) := nn_get S hK hw (ce_O (k := 0) (by decide)) (by decide) rfl nnin6 1 (by decide) hlink rfl hdg kk
theorem gf_Nn_keptValley (S : CallFix p m c cc nL s args nn_B own) (hK : nn_K D cy s) (hw : nn_W D cy ad A s.heap τ H locs) {index : Nat} (hlink : Cond.fieldLink own index "NineNoons" "keptValley" "LNineNoons$Valley;" ∈ nn_B) (hdg : decode cc pc = .ok (.getfield index, 3)) (kk : W p l e R s m args below meth c H locs cells slots Q (F0 m (pc + 3) ls (.ref (ad (6)) :: rest))) : W p l e R s m args below meth c H locs cells slots Q (F0 m pc ls (.ref (ad (118)) :: rest)) := nn_get S hK hw (ce_O (k := 0) (by decide)) (by decide) rfl nnin6 2 (by decide) hlink rfl hdg kk
theorem gf_Nn_keptHistory (S : CallFix p m c cc nL s args nn_B own) (hK : nn_K D cy s) (hw : nn_W D cy ad A s.heap τ H locs) {index : Nat} (hlink : Cond.fieldLink own index "NineNoons" "keptHistory" "LNineNoons$History;" ∈ nn_B) (hdg : decode cc pc = .ok (.getfield index, 3)) (kk : W p l e R s m args below meth c H locs cells slots Q (F0 m (pc + 3) ls (.ref (ad (116)) :: rest))) : W p l e R s m args below meth c H locs cells slots Q (F0 m pc ls (.ref (ad (118)) :: rest)) := nn_get S hK hw (ce_O (k := 0) (by decide)) (by decide) rfl nnin6 3 (by decide) hlink rfl hdg kk
theorem gf_Nn_imageKept (S : CallFix p m c cc nL s args nn_B own) (hK : nn_K D cy s) (hw : nn_W D cy ad A s.heap τ H locs) {x : Int32} (hx : gIm τ = x) {index : Nat} (hlink : Cond.fieldLink own index "NineNoons" "imageKept" "Z" ∈ nn_B) (hdg : decode cc pc = .ok (.getfield index, 3)) (kk : W p l e R s m args below meth c H locs cells slots Q (F0 m (pc + 3) ls (.int (x) :: rest))) : W p l e R s m args below meth c H locs cells slots Q (F0 m pc ls (.ref (ad (118)) :: rest)) := by
  subst hx
  exact nn_get S hK hw (ce_O (k := 0) (by decide)) (by decide) rfl nnin6 4 (by decide) hlink rfl hdg kk
theorem pf_Nn_imageKept (S : CallFix p m c cc nL s args nn_B own) (hK : nn_K D cy s) (hw : nn_W D cy ad A s.heap τ H locs) {x : Int32} (hx : gIm τ = x) {y : Int32} (hbo : y = 0 ∨ y = 1) (hτ : sIm τ y = τ') {index : Nat} (hlink : Cond.fieldLink own index "NineNoons" "imageKept" "Z" ∈ nn_B) (hdg : decode cc pc = .ok (.putfield index, 3)) (kk : ∀ (H : Heap) (locs : List Loc), nn_W D cy ad A s.heap τ' H locs → W p l e R s m args below meth c H locs cells slots Q (F0 m (pc + 3) ls rest)) : W p l e R s m args below meth c H locs cells slots Q (F0 m pc ls (.int y :: .ref (ad (118)) :: rest)) := by
  subst hx; subst hτ
  exact nn_put S hK hw (ce_O (k := 0) (by decide)) (by decide) rfl nnin6 tyX6 tyX6_ok nmX6 4 (by decide) hlink rfl (by rcases hbo with rfl | rfl <;> rfl) (by rcases hbo with rfl | rfl <;> rfl) (Nat.le_of_ble_eq_true rfl) (un_O (k := 0) (by decide) (by rfl) (by rfl) (by rfl) (by rfl) (fun j hj hne => by rcases j with _ | _ | _ | _ | _ | _ | _ | _ | _ | _ | j <;> first | rfl | exact absurd rfl hne | omega)) hdg kk
theorem gf_Nn_trial (S : CallFix p m c cc nL s args nn_B own) (hK : nn_K D cy s) (hw : nn_W D cy ad A s.heap τ H locs) {index : Nat} (hlink : Cond.fieldLink own index "NineNoons" "trial" "LNineNoons$Valley;" ∈ nn_B) (hdg : decode cc pc = .ok (.getfield index, 3)) (kk : W p l e R s m args below meth c H locs cells slots Q (F0 m (pc + 3) ls (.ref (ad (12)) :: rest))) : W p l e R s m args below meth c H locs cells slots Q (F0 m pc ls (.ref (ad (118)) :: rest)) := nn_get S hK hw (ce_O (k := 0) (by decide)) (by decide) rfl nnin6 5 (by decide) hlink rfl hdg kk
theorem gf_Nn_setter (S : CallFix p m c cc nL s args nn_B own) (hK : nn_K D cy s) (hw : nn_W D cy ad A s.heap τ H locs) {index : Nat} (hlink : Cond.fieldLink own index "NineNoons" "setter" "LNineNoons$Setter;" ∈ nn_B) (hdg : decode cc pc = .ok (.getfield index, 3)) (kk : W p l e R s m args below meth c H locs cells slots Q (F0 m (pc + 3) ls (.ref (ad (119)) :: rest))) : W p l e R s m args below meth c H locs cells slots Q (F0 m pc ls (.ref (ad (118)) :: rest)) := nn_get S hK hw (ce_O (k := 0) (by decide)) (by decide) rfl nnin6 6 (by decide) hlink rfl hdg kk
theorem gf_Nn_carrier (S : CallFix p m c cc nL s args nn_B own) (hK : nn_K D cy s) (hw : nn_W D cy ad A s.heap τ H locs) {index : Nat} (hlink : Cond.fieldLink own index "NineNoons" "carrier" "LNineNoons$Carrier;" ∈ nn_B) (hdg : decode cc pc = .ok (.getfield index, 3)) (kk : W p l e R s m args below meth c H locs cells slots Q (F0 m (pc + 3) ls (.ref (ad (122)) :: rest))) : W p l e R s m args below meth c H locs cells slots Q (F0 m pc ls (.ref (ad (118)) :: rest)) := nn_get S hK hw (ce_O (k := 0) (by decide)) (by decide) rfl nnin6 7 (by decide) hlink rfl hdg kk
theorem gf_Nn_tape (S : CallFix p m c cc nL s args nn_B own) (hK : nn_K D cy s) (hw : nn_W D cy ad A s.heap τ H locs) {index : Nat} (hlink : Cond.fieldLink own index "NineNoons" "tape" "LNineNoons$Tape;" ∈ nn_B) (hdg : decode cc pc = .ok (.getfield index, 3)) (kk : W p l e R s m args below meth c H locs cells slots Q (F0 m (pc + 3) ls (.ref (ad (125)) :: rest))) : W p l e R s m args below meth c H locs cells slots Q (F0 m pc ls (.ref (ad (118)) :: rest)) := nn_get S hK hw (ce_O (k := 0) (by decide)) (by decide) rfl nnin6 8 (by decide) hlink rfl hdg kk
theorem gf_Nn_sheets (S : CallFix p m c cc nL s args nn_B own) (hK : nn_K D cy s) (hw : nn_W D cy ad A s.heap τ H locs) {index : Nat} (hlink : Cond.fieldLink own index "NineNoons" "sheets" "[LNineNoons$Sheet;" ∈ nn_B) (hdg : decode cc pc = .ok (.getfield index, 3)) (kk : W p l e R s m args below meth c H locs cells slots Q (F0 m (pc + 3) ls (.ref (ad (127)) :: rest))) : W p l e R s m args below meth c H locs cells slots Q (F0 m pc ls (.ref (ad (118)) :: rest)) := nn_get S hK hw (ce_O (k := 0) (by decide)) (by decide) rfl nnin6 9 (by decide) hlink rfl hdg kk
theorem gf_Se_shifts (S : CallFix p m c cc nL s args nn_B own) (hK : nn_K D cy s) (hw : nn_W D cy ad A s.heap τ H locs) {index : Nat} (hlink : Cond.fieldLink own index "NineNoons$Setter" "shifts" "[I" ∈ nn_B) (hdg : decode cc pc = .ok (.getfield index, 3)) (kk : W p l e R s m args below meth c H locs cells slots Q (F0 m (pc + 3) ls (.ref (ad (120)) :: rest))) : W p l e R s m args below meth c H locs cells slots Q (F0 m pc ls (.ref (ad (119)) :: rest)) := nn_get S hK hw (ce_O (k := 1) (by decide)) (by decide) rfl nnin2 0 (by decide) hlink rfl hdg kk
theorem gf_Se_bestShifts (S : CallFix p m c cc nL s args nn_B own) (hK : nn_K D cy s) (hw : nn_W D cy ad A s.heap τ H locs) {index : Nat} (hlink : Cond.fieldLink own index "NineNoons$Setter" "bestShifts" "[I" ∈ nn_B) (hdg : decode cc pc = .ok (.getfield index, 3)) (kk : W p l e R s m args below meth c H locs cells slots Q (F0 m (pc + 3) ls (.ref (ad (121)) :: rest))) : W p l e R s m args below meth c H locs cells slots Q (F0 m pc ls (.ref (ad (119)) :: rest)) := nn_get S hK hw (ce_O (k := 1) (by decide)) (by decide) rfl nnin2 1 (by decide) hlink rfl hdg kk
theorem gf_Se_bestTotal (S : CallFix p m c cc nL s args nn_B own) (hK : nn_K D cy s) (hw : nn_W D cy ad A s.heap τ H locs) {x : nSe} (hx : gSe τ = x) {index : Nat} (hlink : Cond.fieldLink own index "NineNoons$Setter" "bestTotal" "I" ∈ nn_B) (hdg : decode cc pc = .ok (.getfield index, 3)) (kk : W p l e R s m args below meth c H locs cells slots Q (F0 m (pc + 3) ls (.int (g_Se_bestTotal x) :: rest))) : W p l e R s m args below meth c H locs cells slots Q (F0 m pc ls (.ref (ad (119)) :: rest)) := by
  subst hx
  exact nn_get S hK hw (ce_O (k := 1) (by decide)) (by decide) rfl nnin2 2 (by decide) hlink rfl hdg kk
theorem pf_Se_bestTotal (S : CallFix p m c cc nL s args nn_B own) (hK : nn_K D cy s) (hw : nn_W D cy ad A s.heap τ H locs) {x : nSe} (hx : gSe τ = x) {y : Int32} (hτ : sSe τ (s_Se_bestTotal x y) = τ') {index : Nat} (hlink : Cond.fieldLink own index "NineNoons$Setter" "bestTotal" "I" ∈ nn_B) (hdg : decode cc pc = .ok (.putfield index, 3)) (kk : ∀ (H : Heap) (locs : List Loc), nn_W D cy ad A s.heap τ' H locs → W p l e R s m args below meth c H locs cells slots Q (F0 m (pc + 3) ls rest)) : W p l e R s m args below meth c H locs cells slots Q (F0 m pc ls (.int y :: .ref (ad (119)) :: rest)) := by
  subst hx; subst hτ
  exact nn_put S hK hw (ce_O (k := 1) (by decide)) (by decide) rfl nnin2 tyX2 tyX2_ok nmX2 2 (by decide) hlink rfl rfl rfl (Nat.le_of_ble_eq_true rfl) (un_O (k := 1) (by decide) (by rfl) (by rfl) (by rfl) (by rfl) (fun j hj hne => by rcases j with _ | _ | _ | _ | _ | _ | _ | _ | _ | _ | j <;> first | rfl | exact absurd rfl hne | omega)) hdg kk
theorem al_Vl_kinds (S : CallFix p m c cc nL s args nn_B own) (hK : nn_K D cy s) (hw : nn_W D cy ad A s.heap τ H locs) {v : Nat} (hv : v < 19) {x : nVl} (hx : gV τ v = x) {j : Int32} (hin : ¬ (j < 0 ∨ 6 ≤ j.toNatClampNeg)) (hdg : decode cc pc = .ok (.iaload, 1)) (kk : W p l e R s m args below meth c H locs cells slots Q (F0 m (pc + 1) ls (.int ((g_Vl_kinds x) j.toNatClampNeg) :: rest))) : W p l e R s m args below meth c H locs cells slots Q (F0 m pc ls (.int j :: .ref (ad (6*v+1)) :: rest)) := by
  subst hx
  exact nn_ild S hK hw (ce_V (k := 1) hv (by decide)) (by omega) hin hdg kk
theorem as_Vl_kinds (S : CallFix p m c cc nL s args nn_B own) (hK : nn_K D cy s) (hw : nn_W D cy ad A s.heap τ H locs) {v : Nat} (hv : v < 19) {x : nVl} (hx : gV τ v = x) {j : Int32} {y : Int32} (hin : ¬ (j < 0 ∨ 6 ≤ j.toNatClampNeg)) (hτ : sV τ v (s_Vl_kinds x (upd (g_Vl_kinds x) j.toNatClampNeg y)) = τ') (hdg : decode cc pc = .ok (.iastore, 1)) (kk : ∀ (H : Heap) (locs : List Loc), nn_W D cy ad A s.heap τ' H locs → W p l e R s m args below meth c H locs cells slots Q (F0 m (pc + 1) ls rest)) : W p l e R s m args below meth c H locs cells slots Q (F0 m pc ls (.int y :: .int j :: .ref (ad (6*v+1)) :: rest)) := by
  subst hx; subst hτ
  exact nn_ist S hK hw (ce_V (k := 1) hv (by decide)) (by omega) hin (un_V (k := 1) hv (by decide) (fun j hj hne => by rcases j with _ | _ | _ | _ | _ | _ | j <;> first | rfl | exact absurd rfl hne | omega)) hdg kk
theorem al_Vl_minutes (S : CallFix p m c cc nL s args nn_B own) (hK : nn_K D cy s) (hw : nn_W D cy ad A s.heap τ H locs) {v : Nat} (hv : v < 19) {x : nVl} (hx : gV τ v = x) {j : Int32} (hin : ¬ (j < 0 ∨ 6 ≤ j.toNatClampNeg)) (hdg : decode cc pc = .ok (.iaload, 1)) (kk : W p l e R s m args below meth c H locs cells slots Q (F0 m (pc + 1) ls (.int ((g_Vl_minutes x) j.toNatClampNeg) :: rest))) : W p l e R s m args below meth c H locs cells slots Q (F0 m pc ls (.int j :: .ref (ad (6*v+2)) :: rest)) := by
  subst hx
  exact nn_ild S hK hw (ce_V (k := 2) hv (by decide)) (by omega) hin hdg kk
theorem as_Vl_minutes (S : CallFix p m c cc nL s args nn_B own) (hK : nn_K D cy s) (hw : nn_W D cy ad A s.heap τ H locs) {v : Nat} (hv : v < 19) {x : nVl} (hx : gV τ v = x) {j : Int32} {y : Int32} (hin : ¬ (j < 0 ∨ 6 ≤ j.toNatClampNeg)) (hτ : sV τ v (s_Vl_minutes x (upd (g_Vl_minutes x) j.toNatClampNeg y)) = τ') (hdg : decode cc pc = .ok (.iastore, 1)) (kk : ∀ (H : Heap) (locs : List Loc), nn_W D cy ad A s.heap τ' H locs → W p l e R s m args below meth c H locs cells slots Q (F0 m (pc + 1) ls rest)) : W p l e R s m args below meth c H locs cells slots Q (F0 m pc ls (.int y :: .int j :: .ref (ad (6*v+2)) :: rest)) := by
  subst hx; subst hτ
  exact nn_ist S hK hw (ce_V (k := 2) hv (by decide)) (by omega) hin (un_V (k := 2) hv (by decide) (fun j hj hne => by rcases j with _ | _ | _ | _ | _ | _ | j <;> first | rfl | exact absurd rfl hne | omega)) hdg kk
theorem al_Vl_drifts (S : CallFix p m c cc nL s args nn_B own) (hK : nn_K D cy s) (hw : nn_W D cy ad A s.heap τ H locs) {v : Nat} (hv : v < 19) {x : nVl} (hx : gV τ v = x) {j : Int32} (hin : ¬ (j < 0 ∨ 6 ≤ j.toNatClampNeg)) (hdg : decode cc pc = .ok (.iaload, 1)) (kk : W p l e R s m args below meth c H locs cells slots Q (F0 m (pc + 1) ls (.int ((g_Vl_drifts x) j.toNatClampNeg) :: rest))) : W p l e R s m args below meth c H locs cells slots Q (F0 m pc ls (.int j :: .ref (ad (6*v+3)) :: rest)) := by
  subst hx
  exact nn_ild S hK hw (ce_V (k := 3) hv (by decide)) (by omega) hin hdg kk
theorem as_Vl_drifts (S : CallFix p m c cc nL s args nn_B own) (hK : nn_K D cy s) (hw : nn_W D cy ad A s.heap τ H locs) {v : Nat} (hv : v < 19) {x : nVl} (hx : gV τ v = x) {j : Int32} {y : Int32} (hin : ¬ (j < 0 ∨ 6 ≤ j.toNatClampNeg)) (hτ : sV τ v (s_Vl_drifts x (upd (g_Vl_drifts x) j.toNatClampNeg y)) = τ') (hdg : decode cc pc = .ok (.iastore, 1)) (kk : ∀ (H : Heap) (locs : List Loc), nn_W D cy ad A s.heap τ' H locs → W p l e R s m args below meth c H locs cells slots Q (F0 m (pc + 1) ls rest)) : W p l e R s m args below meth c H locs cells slots Q (F0 m pc ls (.int y :: .int j :: .ref (ad (6*v+3)) :: rest)) := by
  subst hx; subst hτ
  exact nn_ist S hK hw (ce_V (k := 3) hv (by decide)) (by omega) hin (un_V (k := 3) hv (by decide) (fun j hj hne => by rcases j with _ | _ | _ | _ | _ | _ | j <;> first | rfl | exact absurd rfl hne | omega)) hdg kk
theorem al_Vl_miles (S : CallFix p m c cc nL s args nn_B own) (hK : nn_K D cy s) (hw : nn_W D cy ad A s.heap τ H locs) {v : Nat} (hv : v < 19) {x : nVl} (hx : gV τ v = x) {j : Int32} (hin : ¬ (j < 0 ∨ 6 ≤ j.toNatClampNeg)) (hdg : decode cc pc = .ok (.iaload, 1)) (kk : W p l e R s m args below meth c H locs cells slots Q (F0 m (pc + 1) ls (.int ((g_Vl_miles x) j.toNatClampNeg) :: rest))) : W p l e R s m args below meth c H locs cells slots Q (F0 m pc ls (.int j :: .ref (ad (6*v+4)) :: rest)) := by
  subst hx
  exact nn_ild S hK hw (ce_V (k := 4) hv (by decide)) (by omega) hin hdg kk
theorem as_Vl_miles (S : CallFix p m c cc nL s args nn_B own) (hK : nn_K D cy s) (hw : nn_W D cy ad A s.heap τ H locs) {v : Nat} (hv : v < 19) {x : nVl} (hx : gV τ v = x) {j : Int32} {y : Int32} (hin : ¬ (j < 0 ∨ 6 ≤ j.toNatClampNeg)) (hτ : sV τ v (s_Vl_miles x (upd (g_Vl_miles x) j.toNatClampNeg y)) = τ') (hdg : decode cc pc = .ok (.iastore, 1)) (kk : ∀ (H : Heap) (locs : List Loc), nn_W D cy ad A s.heap τ' H locs → W p l e R s m args below meth c H locs cells slots Q (F0 m (pc + 1) ls rest)) : W p l e R s m args below meth c H locs cells slots Q (F0 m pc ls (.int y :: .int j :: .ref (ad (6*v+4)) :: rest)) := by
  subst hx; subst hτ
  exact nn_ist S hK hw (ce_V (k := 4) hv (by decide)) (by omega) hin (un_V (k := 4) hv (by decide) (fun j hj hne => by rcases j with _ | _ | _ | _ | _ | _ | j <;> first | rfl | exact absurd rfl hne | omega)) hdg kk
theorem al_Vl_shifts (S : CallFix p m c cc nL s args nn_B own) (hK : nn_K D cy s) (hw : nn_W D cy ad A s.heap τ H locs) {v : Nat} (hv : v < 19) {x : nVl} (hx : gV τ v = x) {j : Int32} (hin : ¬ (j < 0 ∨ 6 ≤ j.toNatClampNeg)) (hdg : decode cc pc = .ok (.iaload, 1)) (kk : W p l e R s m args below meth c H locs cells slots Q (F0 m (pc + 1) ls (.int ((g_Vl_shifts x) j.toNatClampNeg) :: rest))) : W p l e R s m args below meth c H locs cells slots Q (F0 m pc ls (.int j :: .ref (ad (6*v+5)) :: rest)) := by
  subst hx
  exact nn_ild S hK hw (ce_V (k := 5) hv (by decide)) (by omega) hin hdg kk
theorem as_Vl_shifts (S : CallFix p m c cc nL s args nn_B own) (hK : nn_K D cy s) (hw : nn_W D cy ad A s.heap τ H locs) {v : Nat} (hv : v < 19) {x : nVl} (hx : gV τ v = x) {j : Int32} {y : Int32} (hin : ¬ (j < 0 ∨ 6 ≤ j.toNatClampNeg)) (hτ : sV τ v (s_Vl_shifts x (upd (g_Vl_shifts x) j.toNatClampNeg y)) = τ') (hdg : decode cc pc = .ok (.iastore, 1)) (kk : ∀ (H : Heap) (locs : List Loc), nn_W D cy ad A s.heap τ' H locs → W p l e R s m args below meth c H locs cells slots Q (F0 m (pc + 1) ls rest)) : W p l e R s m args below meth c H locs cells slots Q (F0 m pc ls (.int y :: .int j :: .ref (ad (6*v+5)) :: rest)) := by
  subst hx; subst hτ
  exact nn_ist S hK hw (ce_V (k := 5) hv (by decide)) (by omega) hin (un_V (k := 5) hv (by decide) (fun j hj hne => by rcases j with _ | _ | _ | _ | _ | _ | j <;> first | rfl | exact absurd rfl hne | omega)) hdg kk
theorem al_Sh_items (S : CallFix p m c cc nL s args nn_B own) (hK : nn_K D cy s) (hw : nn_W D cy ad A s.heap τ H locs) {v : Nat} (hv : v < 4) {x : nSh} (hx : gSh τ v = x) {j : Int32} (hin : ¬ (j < 0 ∨ 24 ≤ j.toNatClampNeg)) (hdg : decode cc pc = .ok (.laload, 1)) (kk : W p l e R s m args below meth c H locs cells slots Q (F0 m (pc + 1) ls (.long ((g_Sh_items x) j.toNatClampNeg) :: rest))) : W p l e R s m args below meth c H locs cells slots Q (F0 m pc ls (.int j :: .ref (ad (129+2*v)) :: rest)) := by
  subst hx
  have e0 : 129+2*v = 128+2*v+1 := by omega
  rw [e0]
  exact nn_lld S hK hw (ce_S (k := 1) hv (by decide)) (by omega) hin hdg kk
theorem as_Sh_items (S : CallFix p m c cc nL s args nn_B own) (hK : nn_K D cy s) (hw : nn_W D cy ad A s.heap τ H locs) {v : Nat} (hv : v < 4) {x : nSh} (hx : gSh τ v = x) {j : Int32} {y : Int64} (hin : ¬ (j < 0 ∨ 24 ≤ j.toNatClampNeg)) (hτ : sSh τ v (s_Sh_items x (vp_updL (g_Sh_items x) j.toNatClampNeg y)) = τ') (hdg : decode cc pc = .ok (.lastore, 1)) (kk : ∀ (H : Heap) (locs : List Loc), nn_W D cy ad A s.heap τ' H locs → W p l e R s m args below meth c H locs cells slots Q (F0 m (pc + 1) ls rest)) : W p l e R s m args below meth c H locs cells slots Q (F0 m pc ls (.long y :: .int j :: .ref (ad (129+2*v)) :: rest)) := by
  subst hx; subst hτ
  have e0 : 129+2*v = 128+2*v+1 := by omega
  rw [e0]
  exact nn_lst S hK hw (ce_S (k := 1) hv (by decide)) (by omega) hin (un_S (k := 1) hv (by decide) (fun j hj hne => by rcases j with _ | _ | j <;> first | rfl | exact absurd rfl hne | omega)) hdg kk
theorem al_Ca_order (S : CallFix p m c cc nL s args nn_B own) (hK : nn_K D cy s) (hw : nn_W D cy ad A s.heap τ H locs) {x : nCa} (hx : gCa τ = x) {j : Int32} (hin : ¬ (j < 0 ∨ 6 ≤ j.toNatClampNeg)) (hdg : decode cc pc = .ok (.iaload, 1)) (kk : W p l e R s m args below meth c H locs cells slots Q (F0 m (pc + 1) ls (.int ((g_Ca_order x) j.toNatClampNeg) :: rest))) : W p l e R s m args below meth c H locs cells slots Q (F0 m pc ls (.int j :: .ref (ad (123)) :: rest)) := by
  subst hx
  exact nn_ild S hK hw (ce_O (k := 5) (by decide)) (by decide) hin hdg kk
theorem as_Ca_order (S : CallFix p m c cc nL s args nn_B own) (hK : nn_K D cy s) (hw : nn_W D cy ad A s.heap τ H locs) {x : nCa} (hx : gCa τ = x) {j : Int32} {y : Int32} (hin : ¬ (j < 0 ∨ 6 ≤ j.toNatClampNeg)) (hτ : sCa τ (s_Ca_order x (upd (g_Ca_order x) j.toNatClampNeg y)) = τ') (hdg : decode cc pc = .ok (.iastore, 1)) (kk : ∀ (H : Heap) (locs : List Loc), nn_W D cy ad A s.heap τ' H locs → W p l e R s m args below meth c H locs cells slots Q (F0 m (pc + 1) ls rest)) : W p l e R s m args below meth c H locs cells slots Q (F0 m pc ls (.int y :: .int j :: .ref (ad (123)) :: rest)) := by
  subst hx; subst hτ
  exact nn_ist S hK hw (ce_O (k := 5) (by decide)) (by decide) hin (un_O (k := 5) (by decide) (by rfl) (by rfl) (by rfl) (by rfl) (fun j hj hne => by rcases j with _ | _ | _ | _ | _ | _ | _ | _ | _ | _ | j <;> first | rfl | exact absurd rfl hne | omega)) hdg kk
theorem al_Ca_bestOrder (S : CallFix p m c cc nL s args nn_B own) (hK : nn_K D cy s) (hw : nn_W D cy ad A s.heap τ H locs) {x : nCa} (hx : gCa τ = x) {j : Int32} (hin : ¬ (j < 0 ∨ 6 ≤ j.toNatClampNeg)) (hdg : decode cc pc = .ok (.iaload, 1)) (kk : W p l e R s m args below meth c H locs cells slots Q (F0 m (pc + 1) ls (.int ((g_Ca_bestOrder x) j.toNatClampNeg) :: rest))) : W p l e R s m args below meth c H locs cells slots Q (F0 m pc ls (.int j :: .ref (ad (124)) :: rest)) := by
  subst hx
  exact nn_ild S hK hw (ce_O (k := 6) (by decide)) (by decide) hin hdg kk
theorem as_Ca_bestOrder (S : CallFix p m c cc nL s args nn_B own) (hK : nn_K D cy s) (hw : nn_W D cy ad A s.heap τ H locs) {x : nCa} (hx : gCa τ = x) {j : Int32} {y : Int32} (hin : ¬ (j < 0 ∨ 6 ≤ j.toNatClampNeg)) (hτ : sCa τ (s_Ca_bestOrder x (upd (g_Ca_bestOrder x) j.toNatClampNeg y)) = τ') (hdg : decode cc pc = .ok (.iastore, 1)) (kk : ∀ (H : Heap) (locs : List Loc), nn_W D cy ad A s.heap τ' H locs → W p l e R s m args below meth c H locs cells slots Q (F0 m (pc + 1) ls rest)) : W p l e R s m args below meth c H locs cells slots Q (F0 m pc ls (.int y :: .int j :: .ref (ad (124)) :: rest)) := by
  subst hx; subst hτ
  exact nn_ist S hK hw (ce_O (k := 6) (by decide)) (by decide) hin (un_O (k := 6) (by decide) (by rfl) (by rfl) (by rfl) (by rfl) (fun j hj hne => by rcases j with _ | _ | _ | _ | _ | _ | _ | _ | _ | _ | j <;> first | rfl | exact absurd rfl hne | omega)) hdg kk
theorem al_Ta_letters (S : CallFix p m c cc nL s args nn_B own) (hK : nn_K D cy s) (hw : nn_W D cy ad A s.heap τ H locs) {x : nTa} (hx : gTa τ = x) {j : Int32} (hin : ¬ (j < 0 ∨ 60 ≤ j.toNatClampNeg)) (hdg : decode cc pc = .ok (.caload, 1)) (kk : W p l e R s m args below meth c H locs cells slots Q (F0 m (pc + 1) ls (.int ((g_Ta_letters x) j.toNatClampNeg) :: rest))) : W p l e R s m args below meth c H locs cells slots Q (F0 m pc ls (.int j :: .ref (ad (126)) :: rest)) := by
  subst hx
  exact nn_cld S hK hw (ce_O (k := 8) (by decide)) (by decide) hin hdg kk
theorem as_Ta_letters (S : CallFix p m c cc nL s args nn_B own) (hK : nn_K D cy s) (hw : nn_W D cy ad A s.heap τ H locs) {x : nTa} (hx : gTa τ = x) {j : Int32} {y : Int32} (hin : ¬ (j < 0 ∨ 60 ≤ j.toNatClampNeg)) (hτ : sTa τ (s_Ta_letters x (upd (g_Ta_letters x) j.toNatClampNeg (vp_nar .char y))) = τ') (hdg : decode cc pc = .ok (.castore, 1)) (kk : ∀ (H : Heap) (locs : List Loc), nn_W D cy ad A s.heap τ' H locs → W p l e R s m args below meth c H locs cells slots Q (F0 m (pc + 1) ls rest)) : W p l e R s m args below meth c H locs cells slots Q (F0 m pc ls (.int y :: .int j :: .ref (ad (126)) :: rest)) := by
  subst hx; subst hτ
  exact nn_cst S hK hw (ce_O (k := 8) (by decide)) (by decide) hin (un_O (k := 8) (by decide) (by rfl) (by rfl) (by rfl) (by rfl) (fun j hj hne => by rcases j with _ | _ | _ | _ | _ | _ | _ | _ | _ | _ | j <;> first | rfl | exact absurd rfl hne | omega)) hdg kk
theorem al_Se_shifts (S : CallFix p m c cc nL s args nn_B own) (hK : nn_K D cy s) (hw : nn_W D cy ad A s.heap τ H locs) {x : nSe} (hx : gSe τ = x) {j : Int32} (hin : ¬ (j < 0 ∨ 6 ≤ j.toNatClampNeg)) (hdg : decode cc pc = .ok (.iaload, 1)) (kk : W p l e R s m args below meth c H locs cells slots Q (F0 m (pc + 1) ls (.int ((g_Se_shifts x) j.toNatClampNeg) :: rest))) : W p l e R s m args below meth c H locs cells slots Q (F0 m pc ls (.int j :: .ref (ad (120)) :: rest)) := by
  subst hx
  exact nn_ild S hK hw (ce_O (k := 2) (by decide)) (by decide) hin hdg kk
theorem as_Se_shifts (S : CallFix p m c cc nL s args nn_B own) (hK : nn_K D cy s) (hw : nn_W D cy ad A s.heap τ H locs) {x : nSe} (hx : gSe τ = x) {j : Int32} {y : Int32} (hin : ¬ (j < 0 ∨ 6 ≤ j.toNatClampNeg)) (hτ : sSe τ (s_Se_shifts x (upd (g_Se_shifts x) j.toNatClampNeg y)) = τ') (hdg : decode cc pc = .ok (.iastore, 1)) (kk : ∀ (H : Heap) (locs : List Loc), nn_W D cy ad A s.heap τ' H locs → W p l e R s m args below meth c H locs cells slots Q (F0 m (pc + 1) ls rest)) : W p l e R s m args below meth c H locs cells slots Q (F0 m pc ls (.int y :: .int j :: .ref (ad (120)) :: rest)) := by
  subst hx; subst hτ
  exact nn_ist S hK hw (ce_O (k := 2) (by decide)) (by decide) hin (un_O (k := 2) (by decide) (by rfl) (by rfl) (by rfl) (by rfl) (fun j hj hne => by rcases j with _ | _ | _ | _ | _ | _ | _ | _ | _ | _ | j <;> first | rfl | exact absurd rfl hne | omega)) hdg kk
theorem al_Se_bestShifts (S : CallFix p m c cc nL s args nn_B own) (hK : nn_K D cy s) (hw : nn_W D cy ad A s.heap τ H locs) {x : nSe} (hx : gSe τ = x) {j : Int32} (hin : ¬ (j < 0 ∨ 6 ≤ j.toNatClampNeg)) (hdg : decode cc pc = .ok (.iaload, 1)) (kk : W p l e R s m args below meth c H locs cells slots Q (F0 m (pc + 1) ls (.int ((g_Se_bestShifts x) j.toNatClampNeg) :: rest))) : W p l e R s m args below meth c H locs cells slots Q (F0 m pc ls (.int j :: .ref (ad (121)) :: rest)) := by
  subst hx
  exact nn_ild S hK hw (ce_O (k := 3) (by decide)) (by decide) hin hdg kk
theorem as_Se_bestShifts (S : CallFix p m c cc nL s args nn_B own) (hK : nn_K D cy s) (hw : nn_W D cy ad A s.heap τ H locs) {x : nSe} (hx : gSe τ = x) {j : Int32} {y : Int32} (hin : ¬ (j < 0 ∨ 6 ≤ j.toNatClampNeg)) (hτ : sSe τ (s_Se_bestShifts x (upd (g_Se_bestShifts x) j.toNatClampNeg y)) = τ') (hdg : decode cc pc = .ok (.iastore, 1)) (kk : ∀ (H : Heap) (locs : List Loc), nn_W D cy ad A s.heap τ' H locs → W p l e R s m args below meth c H locs cells slots Q (F0 m (pc + 1) ls rest)) : W p l e R s m args below meth c H locs cells slots Q (F0 m pc ls (.int y :: .int j :: .ref (ad (121)) :: rest)) := by
  subst hx; subst hτ
  exact nn_ist S hK hw (ce_O (k := 3) (by decide)) (by decide) hin (un_O (k := 3) (by decide) (by rfl) (by rfl) (by rfl) (by rfl) (fun j hj hne => by rcases j with _ | _ | _ | _ | _ | _ | _ | _ | _ | _ | j <;> first | rfl | exact absurd rfl hne | omega)) hdg kk
theorem al_Md_now (S : CallFix p m c cc nL s args nn_B own) (hK : nn_K D cy s) (hw : nn_W D cy ad A s.heap τ H locs) {x : nMd} (hx : gM τ = x) {j : Int32} (hin : ¬ (j < 0 ∨ 27 ≤ j.toNatClampNeg)) (hdg : decode cc pc = .ok (.iaload, 1)) (kk : W p l e R s m args below meth c H locs cells slots Q (F0 m (pc + 1) ls (.int ((g_Md_now x) j.toNatClampNeg) :: rest))) : W p l e R s m args below meth c H locs cells slots Q (F0 m pc ls (.int j :: .ref (ad (137)) :: rest)) := by
  subst hx
  exact nn_ild S hK hw (ce_M (k := 1)) (by decide) hin hdg kk
theorem as_Md_now (S : CallFix p m c cc nL s args nn_B own) (hK : nn_K D cy s) (hw : nn_W D cy ad A s.heap τ H locs) {x : nMd} (hx : gM τ = x) {j : Int32} {y : Int32} (hin : ¬ (j < 0 ∨ 27 ≤ j.toNatClampNeg)) (hτ : sM τ (s_Md_now x (upd (g_Md_now x) j.toNatClampNeg y)) = τ') (hdg : decode cc pc = .ok (.iastore, 1)) (kk : ∀ (H : Heap) (locs : List Loc), nn_W D cy ad A s.heap τ' H locs → W p l e R s m args below meth c H locs cells slots Q (F0 m (pc + 1) ls rest)) : W p l e R s m args below meth c H locs cells slots Q (F0 m pc ls (.int y :: .int j :: .ref (ad (137)) :: rest)) := by
  subst hx; subst hτ
  exact nn_ist S hK hw (ce_M (k := 1)) (by decide) hin (un_M (k := 1) (by decide) (fun j hj hne => by rcases j with _ | _ | _ | _ | _ | _ | _ | _ | _ | _ | _ | _ | _ | _ | _ | j <;> first | rfl | exact absurd rfl hne | omega)) hdg kk
theorem al_Md_later (S : CallFix p m c cc nL s args nn_B own) (hK : nn_K D cy s) (hw : nn_W D cy ad A s.heap τ H locs) {x : nMd} (hx : gM τ = x) {j : Int32} (hin : ¬ (j < 0 ∨ 6 ≤ j.toNatClampNeg)) (hdg : decode cc pc = .ok (.iaload, 1)) (kk : W p l e R s m args below meth c H locs cells slots Q (F0 m (pc + 1) ls (.int ((g_Md_later x) j.toNatClampNeg) :: rest))) : W p l e R s m args below meth c H locs cells slots Q (F0 m pc ls (.int j :: .ref (ad (138)) :: rest)) := by
  subst hx
  exact nn_ild S hK hw (ce_M (k := 2)) (by decide) hin hdg kk
theorem as_Md_later (S : CallFix p m c cc nL s args nn_B own) (hK : nn_K D cy s) (hw : nn_W D cy ad A s.heap τ H locs) {x : nMd} (hx : gM τ = x) {j : Int32} {y : Int32} (hin : ¬ (j < 0 ∨ 6 ≤ j.toNatClampNeg)) (hτ : sM τ (s_Md_later x (upd (g_Md_later x) j.toNatClampNeg y)) = τ') (hdg : decode cc pc = .ok (.iastore, 1)) (kk : ∀ (H : Heap) (locs : List Loc), nn_W D cy ad A s.heap τ' H locs → W p l e R s m args below meth c H locs cells slots Q (F0 m (pc + 1) ls rest)) : W p l e R s m args below meth c H locs cells slots Q (F0 m pc ls (.int y :: .int j :: .ref (ad (138)) :: rest)) := by
  subst hx; subst hτ
  exact nn_ist S hK hw (ce_M (k := 2)) (by decide) hin (un_M (k := 2) (by decide) (fun j hj hne => by rcases j with _ | _ | _ | _ | _ | _ | _ | _ | _ | _ | _ | _ | _ | _ | _ | j <;> first | rfl | exact absurd rfl hne | omega)) hdg kk
theorem al_Md_tape (S : CallFix p m c cc nL s args nn_B own) (hK : nn_K D cy s) (hw : nn_W D cy ad A s.heap τ H locs) {x : nMd} (hx : gM τ = x) {j : Int32} (hin : ¬ (j < 0 ∨ 60 ≤ j.toNatClampNeg)) (hdg : decode cc pc = .ok (.iaload, 1)) (kk : W p l e R s m args below meth c H locs cells slots Q (F0 m (pc + 1) ls (.int ((g_Md_tape x) j.toNatClampNeg) :: rest))) : W p l e R s m args below meth c H locs cells slots Q (F0 m pc ls (.int j :: .ref (ad (139)) :: rest)) := by
  subst hx
  exact nn_ild S hK hw (ce_M (k := 3)) (by decide) hin hdg kk
theorem as_Md_tape (S : CallFix p m c cc nL s args nn_B own) (hK : nn_K D cy s) (hw : nn_W D cy ad A s.heap τ H locs) {x : nMd} (hx : gM τ = x) {j : Int32} {y : Int32} (hin : ¬ (j < 0 ∨ 60 ≤ j.toNatClampNeg)) (hτ : sM τ (s_Md_tape x (upd (g_Md_tape x) j.toNatClampNeg y)) = τ') (hdg : decode cc pc = .ok (.iastore, 1)) (kk : ∀ (H : Heap) (locs : List Loc), nn_W D cy ad A s.heap τ' H locs → W p l e R s m args below meth c H locs cells slots Q (F0 m (pc + 1) ls rest)) : W p l e R s m args below meth c H locs cells slots Q (F0 m pc ls (.int y :: .int j :: .ref (ad (139)) :: rest)) := by
  subst hx; subst hτ
  exact nn_ist S hK hw (ce_M (k := 3)) (by decide) hin (un_M (k := 3) (by decide) (fun j hj hne => by rcases j with _ | _ | _ | _ | _ | _ | _ | _ | _ | _ | _ | _ | _ | _ | _ | j <;> first | rfl | exact absurd rfl hne | omega)) hdg kk
theorem al_Md_read (S : CallFix p m c cc nL s args nn_B own) (hK : nn_K D cy s) (hw : nn_W D cy ad A s.heap τ H locs) {x : nMd} (hx : gM τ = x) {j : Int32} (hin : ¬ (j < 0 ∨ 24 ≤ j.toNatClampNeg)) (hdg : decode cc pc = .ok (.iaload, 1)) (kk : W p l e R s m args below meth c H locs cells slots Q (F0 m (pc + 1) ls (.int ((g_Md_read x) j.toNatClampNeg) :: rest))) : W p l e R s m args below meth c H locs cells slots Q (F0 m pc ls (.int j :: .ref (ad (140)) :: rest)) := by
  subst hx
  exact nn_ild S hK hw (ce_M (k := 4)) (by decide) hin hdg kk
theorem as_Md_read (S : CallFix p m c cc nL s args nn_B own) (hK : nn_K D cy s) (hw : nn_W D cy ad A s.heap τ H locs) {x : nMd} (hx : gM τ = x) {j : Int32} {y : Int32} (hin : ¬ (j < 0 ∨ 24 ≤ j.toNatClampNeg)) (hτ : sM τ (s_Md_read x (upd (g_Md_read x) j.toNatClampNeg y)) = τ') (hdg : decode cc pc = .ok (.iastore, 1)) (kk : ∀ (H : Heap) (locs : List Loc), nn_W D cy ad A s.heap τ' H locs → W p l e R s m args below meth c H locs cells slots Q (F0 m (pc + 1) ls rest)) : W p l e R s m args below meth c H locs cells slots Q (F0 m pc ls (.int y :: .int j :: .ref (ad (140)) :: rest)) := by
  subst hx; subst hτ
  exact nn_ist S hK hw (ce_M (k := 4)) (by decide) hin (un_M (k := 4) (by decide) (fun j hj hne => by rcases j with _ | _ | _ | _ | _ | _ | _ | _ | _ | _ | _ | _ | _ | _ | _ | j <;> first | rfl | exact absurd rfl hne | omega)) hdg kk
theorem al_Md_undone (S : CallFix p m c cc nL s args nn_B own) (hK : nn_K D cy s) (hw : nn_W D cy ad A s.heap τ H locs) {x : nMd} (hx : gM τ = x) {j : Int32} (hin : ¬ (j < 0 ∨ 216 ≤ j.toNatClampNeg)) (hdg : decode cc pc = .ok (.iaload, 1)) (kk : W p l e R s m args below meth c H locs cells slots Q (F0 m (pc + 1) ls (.int ((g_Md_undone x) j.toNatClampNeg) :: rest))) : W p l e R s m args below meth c H locs cells slots Q (F0 m pc ls (.int j :: .ref (ad (141)) :: rest)) := by
  subst hx
  exact nn_ild S hK hw (ce_M (k := 5)) (by decide) hin hdg kk
theorem as_Md_undone (S : CallFix p m c cc nL s args nn_B own) (hK : nn_K D cy s) (hw : nn_W D cy ad A s.heap τ H locs) {x : nMd} (hx : gM τ = x) {j : Int32} {y : Int32} (hin : ¬ (j < 0 ∨ 216 ≤ j.toNatClampNeg)) (hτ : sM τ (s_Md_undone x (upd (g_Md_undone x) j.toNatClampNeg y)) = τ') (hdg : decode cc pc = .ok (.iastore, 1)) (kk : ∀ (H : Heap) (locs : List Loc), nn_W D cy ad A s.heap τ' H locs → W p l e R s m args below meth c H locs cells slots Q (F0 m (pc + 1) ls rest)) : W p l e R s m args below meth c H locs cells slots Q (F0 m pc ls (.int y :: .int j :: .ref (ad (141)) :: rest)) := by
  subst hx; subst hτ
  exact nn_ist S hK hw (ce_M (k := 5)) (by decide) hin (un_M (k := 5) (by decide) (fun j hj hne => by rcases j with _ | _ | _ | _ | _ | _ | _ | _ | _ | _ | _ | _ | _ | _ | _ | j <;> first | rfl | exact absurd rfl hne | omega)) hdg kk
theorem al_Md_aside (S : CallFix p m c cc nL s args nn_B own) (hK : nn_K D cy s) (hw : nn_W D cy ad A s.heap τ H locs) {x : nMd} (hx : gM τ = x) {j : Int32} (hin : ¬ (j < 0 ∨ 27 ≤ j.toNatClampNeg)) (hdg : decode cc pc = .ok (.iaload, 1)) (kk : W p l e R s m args below meth c H locs cells slots Q (F0 m (pc + 1) ls (.int ((g_Md_aside x) j.toNatClampNeg) :: rest))) : W p l e R s m args below meth c H locs cells slots Q (F0 m pc ls (.int j :: .ref (ad (142)) :: rest)) := by
  subst hx
  exact nn_ild S hK hw (ce_M (k := 6)) (by decide) hin hdg kk
theorem as_Md_aside (S : CallFix p m c cc nL s args nn_B own) (hK : nn_K D cy s) (hw : nn_W D cy ad A s.heap τ H locs) {x : nMd} (hx : gM τ = x) {j : Int32} {y : Int32} (hin : ¬ (j < 0 ∨ 27 ≤ j.toNatClampNeg)) (hτ : sM τ (s_Md_aside x (upd (g_Md_aside x) j.toNatClampNeg y)) = τ') (hdg : decode cc pc = .ok (.iastore, 1)) (kk : ∀ (H : Heap) (locs : List Loc), nn_W D cy ad A s.heap τ' H locs → W p l e R s m args below meth c H locs cells slots Q (F0 m (pc + 1) ls rest)) : W p l e R s m args below meth c H locs cells slots Q (F0 m pc ls (.int y :: .int j :: .ref (ad (142)) :: rest)) := by
  subst hx; subst hτ
  exact nn_ist S hK hw (ce_M (k := 6)) (by decide) hin (un_M (k := 6) (by decide) (fun j hj hne => by rcases j with _ | _ | _ | _ | _ | _ | _ | _ | _ | _ | _ | _ | _ | _ | _ | j <;> first | rfl | exact absurd rfl hne | omega)) hdg kk
theorem al_Md_by (S : CallFix p m c cc nL s args nn_B own) (hK : nn_K D cy s) (hw : nn_W D cy ad A s.heap τ H locs) {x : nMd} (hx : gM τ = x) {j : Int32} (hin : ¬ (j < 0 ∨ 6 ≤ j.toNatClampNeg)) (hdg : decode cc pc = .ok (.iaload, 1)) (kk : W p l e R s m args below meth c H locs cells slots Q (F0 m (pc + 1) ls (.int ((g_Md_by x) j.toNatClampNeg) :: rest))) : W p l e R s m args below meth c H locs cells slots Q (F0 m pc ls (.int j :: .ref (ad (143)) :: rest)) := by
  subst hx
  exact nn_ild S hK hw (ce_M (k := 7)) (by decide) hin hdg kk
theorem as_Md_by (S : CallFix p m c cc nL s args nn_B own) (hK : nn_K D cy s) (hw : nn_W D cy ad A s.heap τ H locs) {x : nMd} (hx : gM τ = x) {j : Int32} {y : Int32} (hin : ¬ (j < 0 ∨ 6 ≤ j.toNatClampNeg)) (hτ : sM τ (s_Md_by x (upd (g_Md_by x) j.toNatClampNeg y)) = τ') (hdg : decode cc pc = .ok (.iastore, 1)) (kk : ∀ (H : Heap) (locs : List Loc), nn_W D cy ad A s.heap τ' H locs → W p l e R s m args below meth c H locs cells slots Q (F0 m (pc + 1) ls rest)) : W p l e R s m args below meth c H locs cells slots Q (F0 m pc ls (.int y :: .int j :: .ref (ad (143)) :: rest)) := by
  subst hx; subst hτ
  exact nn_ist S hK hw (ce_M (k := 7)) (by decide) hin (un_M (k := 7) (by decide) (fun j hj hne => by rcases j with _ | _ | _ | _ | _ | _ | _ | _ | _ | _ | _ | _ | _ | _ | _ | j <;> first | rfl | exact absurd rfl hne | omega)) hdg kk
theorem al_Md_best (S : CallFix p m c cc nL s args nn_B own) (hK : nn_K D cy s) (hw : nn_W D cy ad A s.heap τ H locs) {x : nMd} (hx : gM τ = x) {j : Int32} (hin : ¬ (j < 0 ∨ 6 ≤ j.toNatClampNeg)) (hdg : decode cc pc = .ok (.iaload, 1)) (kk : W p l e R s m args below meth c H locs cells slots Q (F0 m (pc + 1) ls (.int ((g_Md_best x) j.toNatClampNeg) :: rest))) : W p l e R s m args below meth c H locs cells slots Q (F0 m pc ls (.int j :: .ref (ad (144)) :: rest)) := by
  subst hx
  exact nn_ild S hK hw (ce_M (k := 8)) (by decide) hin hdg kk
theorem as_Md_best (S : CallFix p m c cc nL s args nn_B own) (hK : nn_K D cy s) (hw : nn_W D cy ad A s.heap τ H locs) {x : nMd} (hx : gM τ = x) {j : Int32} {y : Int32} (hin : ¬ (j < 0 ∨ 6 ≤ j.toNatClampNeg)) (hτ : sM τ (s_Md_best x (upd (g_Md_best x) j.toNatClampNeg y)) = τ') (hdg : decode cc pc = .ok (.iastore, 1)) (kk : ∀ (H : Heap) (locs : List Loc), nn_W D cy ad A s.heap τ' H locs → W p l e R s m args below meth c H locs cells slots Q (F0 m (pc + 1) ls rest)) : W p l e R s m args below meth c H locs cells slots Q (F0 m pc ls (.int y :: .int j :: .ref (ad (144)) :: rest)) := by
  subst hx; subst hτ
  exact nn_ist S hK hw (ce_M (k := 8)) (by decide) hin (un_M (k := 8) (by decide) (fun j hj hne => by rcases j with _ | _ | _ | _ | _ | _ | _ | _ | _ | _ | _ | _ | _ | _ | _ | j <;> first | rfl | exact absurd rfl hne | omega)) hdg kk
theorem al_Md_order (S : CallFix p m c cc nL s args nn_B own) (hK : nn_K D cy s) (hw : nn_W D cy ad A s.heap τ H locs) {x : nMd} (hx : gM τ = x) {j : Int32} (hin : ¬ (j < 0 ∨ 6 ≤ j.toNatClampNeg)) (hdg : decode cc pc = .ok (.iaload, 1)) (kk : W p l e R s m args below meth c H locs cells slots Q (F0 m (pc + 1) ls (.int ((g_Md_order x) j.toNatClampNeg) :: rest))) : W p l e R s m args below meth c H locs cells slots Q (F0 m pc ls (.int j :: .ref (ad (145)) :: rest)) := by
  subst hx
  exact nn_ild S hK hw (ce_M (k := 9)) (by decide) hin hdg kk
theorem as_Md_order (S : CallFix p m c cc nL s args nn_B own) (hK : nn_K D cy s) (hw : nn_W D cy ad A s.heap τ H locs) {x : nMd} (hx : gM τ = x) {j : Int32} {y : Int32} (hin : ¬ (j < 0 ∨ 6 ≤ j.toNatClampNeg)) (hτ : sM τ (s_Md_order x (upd (g_Md_order x) j.toNatClampNeg y)) = τ') (hdg : decode cc pc = .ok (.iastore, 1)) (kk : ∀ (H : Heap) (locs : List Loc), nn_W D cy ad A s.heap τ' H locs → W p l e R s m args below meth c H locs cells slots Q (F0 m (pc + 1) ls rest)) : W p l e R s m args below meth c H locs cells slots Q (F0 m pc ls (.int y :: .int j :: .ref (ad (145)) :: rest)) := by
  subst hx; subst hτ
  exact nn_ist S hK hw (ce_M (k := 9)) (by decide) hin (un_M (k := 9) (by decide) (fun j hj hne => by rcases j with _ | _ | _ | _ | _ | _ | _ | _ | _ | _ | _ | _ | _ | _ | _ | j <;> first | rfl | exact absurd rfl hne | omega)) hdg kk
theorem al_Md_kept (S : CallFix p m c cc nL s args nn_B own) (hK : nn_K D cy s) (hw : nn_W D cy ad A s.heap τ H locs) {x : nMd} (hx : gM τ = x) {j : Int32} (hin : ¬ (j < 0 ∨ 243 ≤ j.toNatClampNeg)) (hdg : decode cc pc = .ok (.iaload, 1)) (kk : W p l e R s m args below meth c H locs cells slots Q (F0 m (pc + 1) ls (.int ((g_Md_kept x) j.toNatClampNeg) :: rest))) : W p l e R s m args below meth c H locs cells slots Q (F0 m pc ls (.int j :: .ref (ad (146)) :: rest)) := by
  subst hx
  exact nn_ild S hK hw (ce_M (k := 10)) (by decide) hin hdg kk
theorem as_Md_kept (S : CallFix p m c cc nL s args nn_B own) (hK : nn_K D cy s) (hw : nn_W D cy ad A s.heap τ H locs) {x : nMd} (hx : gM τ = x) {j : Int32} {y : Int32} (hin : ¬ (j < 0 ∨ 243 ≤ j.toNatClampNeg)) (hτ : sM τ (s_Md_kept x (upd (g_Md_kept x) j.toNatClampNeg y)) = τ') (hdg : decode cc pc = .ok (.iastore, 1)) (kk : ∀ (H : Heap) (locs : List Loc), nn_W D cy ad A s.heap τ' H locs → W p l e R s m args below meth c H locs cells slots Q (F0 m (pc + 1) ls rest)) : W p l e R s m args below meth c H locs cells slots Q (F0 m pc ls (.int y :: .int j :: .ref (ad (146)) :: rest)) := by
  subst hx; subst hτ
  exact nn_ist S hK hw (ce_M (k := 10)) (by decide) hin (un_M (k := 10) (by decide) (fun j hj hne => by rcases j with _ | _ | _ | _ | _ | _ | _ | _ | _ | _ | _ | _ | _ | _ | _ | j <;> first | rfl | exact absurd rfl hne | omega)) hdg kk
theorem al_Md_lanes (S : CallFix p m c cc nL s args nn_B own) (hK : nn_K D cy s) (hw : nn_W D cy ad A s.heap τ H locs) {x : nMd} (hx : gM τ = x) {j : Int32} (hin : ¬ (j < 0 ∨ 4 ≤ j.toNatClampNeg)) (hdg : decode cc pc = .ok (.iaload, 1)) (kk : W p l e R s m args below meth c H locs cells slots Q (F0 m (pc + 1) ls (.int ((g_Md_lanes x) j.toNatClampNeg) :: rest))) : W p l e R s m args below meth c H locs cells slots Q (F0 m pc ls (.int j :: .ref (ad (147)) :: rest)) := by
  subst hx
  exact nn_ild S hK hw (ce_M (k := 11)) (by decide) hin hdg kk
theorem as_Md_lanes (S : CallFix p m c cc nL s args nn_B own) (hK : nn_K D cy s) (hw : nn_W D cy ad A s.heap τ H locs) {x : nMd} (hx : gM τ = x) {j : Int32} {y : Int32} (hin : ¬ (j < 0 ∨ 4 ≤ j.toNatClampNeg)) (hτ : sM τ (s_Md_lanes x (upd (g_Md_lanes x) j.toNatClampNeg y)) = τ') (hdg : decode cc pc = .ok (.iastore, 1)) (kk : ∀ (H : Heap) (locs : List Loc), nn_W D cy ad A s.heap τ' H locs → W p l e R s m args below meth c H locs cells slots Q (F0 m (pc + 1) ls rest)) : W p l e R s m args below meth c H locs cells slots Q (F0 m pc ls (.int y :: .int j :: .ref (ad (147)) :: rest)) := by
  subst hx; subst hτ
  exact nn_ist S hK hw (ce_M (k := 11)) (by decide) hin (un_M (k := 11) (by decide) (fun j hj hne => by rcases j with _ | _ | _ | _ | _ | _ | _ | _ | _ | _ | _ | _ | _ | _ | _ | j <;> first | rfl | exact absurd rfl hne | omega)) hdg kk
theorem al_Md_sizes (S : CallFix p m c cc nL s args nn_B own) (hK : nn_K D cy s) (hw : nn_W D cy ad A s.heap τ H locs) {x : nMd} (hx : gM τ = x) {j : Int32} (hin : ¬ (j < 0 ∨ 4 ≤ j.toNatClampNeg)) (hdg : decode cc pc = .ok (.iaload, 1)) (kk : W p l e R s m args below meth c H locs cells slots Q (F0 m (pc + 1) ls (.int ((g_Md_sizes x) j.toNatClampNeg) :: rest))) : W p l e R s m args below meth c H locs cells slots Q (F0 m pc ls (.int j :: .ref (ad (148)) :: rest)) := by
  subst hx
  exact nn_ild S hK hw (ce_M (k := 12)) (by decide) hin hdg kk
theorem as_Md_sizes (S : CallFix p m c cc nL s args nn_B own) (hK : nn_K D cy s) (hw : nn_W D cy ad A s.heap τ H locs) {x : nMd} (hx : gM τ = x) {j : Int32} {y : Int32} (hin : ¬ (j < 0 ∨ 4 ≤ j.toNatClampNeg)) (hτ : sM τ (s_Md_sizes x (upd (g_Md_sizes x) j.toNatClampNeg y)) = τ') (hdg : decode cc pc = .ok (.iastore, 1)) (kk : ∀ (H : Heap) (locs : List Loc), nn_W D cy ad A s.heap τ' H locs → W p l e R s m args below meth c H locs cells slots Q (F0 m (pc + 1) ls rest)) : W p l e R s m args below meth c H locs cells slots Q (F0 m pc ls (.int y :: .int j :: .ref (ad (148)) :: rest)) := by
  subst hx; subst hτ
  exact nn_ist S hK hw (ce_M (k := 12)) (by decide) hin (un_M (k := 12) (by decide) (fun j hj hne => by rcases j with _ | _ | _ | _ | _ | _ | _ | _ | _ | _ | _ | _ | _ | _ | _ | j <;> first | rfl | exact absurd rfl hne | omega)) hdg kk
theorem al_Md_items (S : CallFix p m c cc nL s args nn_B own) (hK : nn_K D cy s) (hw : nn_W D cy ad A s.heap τ H locs) {x : nMd} (hx : gM τ = x) {j : Int32} (hin : ¬ (j < 0 ∨ 96 ≤ j.toNatClampNeg)) (hdg : decode cc pc = .ok (.laload, 1)) (kk : W p l e R s m args below meth c H locs cells slots Q (F0 m (pc + 1) ls (.long ((g_Md_items x) j.toNatClampNeg) :: rest))) : W p l e R s m args below meth c H locs cells slots Q (F0 m pc ls (.int j :: .ref (ad (149)) :: rest)) := by
  subst hx
  exact nn_lld S hK hw (ce_M (k := 13)) (by decide) hin hdg kk
theorem as_Md_items (S : CallFix p m c cc nL s args nn_B own) (hK : nn_K D cy s) (hw : nn_W D cy ad A s.heap τ H locs) {x : nMd} (hx : gM τ = x) {j : Int32} {y : Int64} (hin : ¬ (j < 0 ∨ 96 ≤ j.toNatClampNeg)) (hτ : sM τ (s_Md_items x (vp_updL (g_Md_items x) j.toNatClampNeg y)) = τ') (hdg : decode cc pc = .ok (.lastore, 1)) (kk : ∀ (H : Heap) (locs : List Loc), nn_W D cy ad A s.heap τ' H locs → W p l e R s m args below meth c H locs cells slots Q (F0 m (pc + 1) ls rest)) : W p l e R s m args below meth c H locs cells slots Q (F0 m pc ls (.long y :: .int j :: .ref (ad (149)) :: rest)) := by
  subst hx; subst hτ
  exact nn_lst S hK hw (ce_M (k := 13)) (by decide) hin (un_M (k := 13) (by decide) (fun j hj hne => by rcases j with _ | _ | _ | _ | _ | _ | _ | _ | _ | _ | _ | _ | _ | _ | _ | j <;> first | rfl | exact absurd rfl hne | omega)) hdg kk
theorem al_Md_moved (S : CallFix p m c cc nL s args nn_B own) (hK : nn_K D cy s) (hw : nn_W D cy ad A s.heap τ H locs) {x : nMd} (hx : gM τ = x) {j : Int32} (hin : ¬ (j < 0 ∨ 24 ≤ j.toNatClampNeg)) (hdg : decode cc pc = .ok (.laload, 1)) (kk : W p l e R s m args below meth c H locs cells slots Q (F0 m (pc + 1) ls (.long ((g_Md_moved x) j.toNatClampNeg) :: rest))) : W p l e R s m args below meth c H locs cells slots Q (F0 m pc ls (.int j :: .ref (ad (150)) :: rest)) := by
  subst hx
  exact nn_lld S hK hw (ce_M (k := 14)) (by decide) hin hdg kk
theorem as_Md_moved (S : CallFix p m c cc nL s args nn_B own) (hK : nn_K D cy s) (hw : nn_W D cy ad A s.heap τ H locs) {x : nMd} (hx : gM τ = x) {j : Int32} {y : Int64} (hin : ¬ (j < 0 ∨ 24 ≤ j.toNatClampNeg)) (hτ : sM τ (s_Md_moved x (vp_updL (g_Md_moved x) j.toNatClampNeg y)) = τ') (hdg : decode cc pc = .ok (.lastore, 1)) (kk : ∀ (H : Heap) (locs : List Loc), nn_W D cy ad A s.heap τ' H locs → W p l e R s m args below meth c H locs cells slots Q (F0 m (pc + 1) ls rest)) : W p l e R s m args below meth c H locs cells slots Q (F0 m pc ls (.long y :: .int j :: .ref (ad (150)) :: rest)) := by
  subst hx; subst hτ
  exact nn_lst S hK hw (ce_M (k := 14)) (by decide) hin (un_M (k := 14) (by decide) (fun j hj hne => by rcases j with _ | _ | _ | _ | _ | _ | _ | _ | _ | _ | _ | _ | _ | _ | _ | j <;> first | rfl | exact absurd rfl hne | omega)) hdg kk
theorem ac_Vl_kinds (S : CallFix p m c cc nL s args nn_B own) (hK : nn_K D cy s) (hw : nn_W D cy ad A s.heap τ H locs) {v w : Nat} (hv : v < 19) (hw9 : w < 19) {x z : nVl} (hx : gV τ v = x) (hz : gV τ w = z) {sp dp n : Int32} (h1 : ¬ sp < 0) (h2 : ¬ dp < 0) (h3 : ¬ n < 0) (h4 : sp.toNatClampNeg + n.toNatClampNeg ≤ 6) (h5 : dp.toNatClampNeg + n.toNatClampNeg ≤ 6) (hsz : ls.size = nL) (hf : 1 ≤ R.frames) (hl : (rest.map fun v => v.category).sum + (nativeFrameWords "java/lang/System" "arraycopy" 5 + 11) ≤ R.locals) (hτ : sV τ v (s_Vl_kinds x (va_cpy (g_Vl_kinds z) (g_Vl_kinds x) sp.toNatClampNeg dp.toNatClampNeg n.toNatClampNeg)) = τ') {index : Nat} (hlink : Cond.methodLink own index arraycopyName ∈ nn_B) (hdg : decode cc pc = .ok (.invokestatic index, 3)) (kk : ∀ (H : Heap) (locs : List Loc), nn_W D cy ad A s.heap τ' H locs → W p l e R s m args below meth c H locs cells slots Q (F0 m (pc + 3) ls rest)) : W p l e R s m args below meth c H locs cells slots Q (F0 m pc ls (.int n :: .int dp :: .ref (ad (6*v+1)) :: .int sp :: .ref (ad (6*w+1)) :: rest)) := by
  subst hx; subst hz; subst hτ
  exact nn_acI S hK hw (ce_V (k := 1) hw9 (by decide)) (by omega) (ce_V (k := 1) hv (by decide)) (by omega) h1 h2 h3 h4 h5 hsz hf hl (un_V (k := 1) hv (by decide) (fun j hj hne => by rcases j with _ | _ | _ | _ | _ | _ | j <;> first | rfl | exact absurd rfl hne | omega)) hlink hdg kk
theorem ac_Vl_minutes (S : CallFix p m c cc nL s args nn_B own) (hK : nn_K D cy s) (hw : nn_W D cy ad A s.heap τ H locs) {v w : Nat} (hv : v < 19) (hw9 : w < 19) {x z : nVl} (hx : gV τ v = x) (hz : gV τ w = z) {sp dp n : Int32} (h1 : ¬ sp < 0) (h2 : ¬ dp < 0) (h3 : ¬ n < 0) (h4 : sp.toNatClampNeg + n.toNatClampNeg ≤ 6) (h5 : dp.toNatClampNeg + n.toNatClampNeg ≤ 6) (hsz : ls.size = nL) (hf : 1 ≤ R.frames) (hl : (rest.map fun v => v.category).sum + (nativeFrameWords "java/lang/System" "arraycopy" 5 + 11) ≤ R.locals) (hτ : sV τ v (s_Vl_minutes x (va_cpy (g_Vl_minutes z) (g_Vl_minutes x) sp.toNatClampNeg dp.toNatClampNeg n.toNatClampNeg)) = τ') {index : Nat} (hlink : Cond.methodLink own index arraycopyName ∈ nn_B) (hdg : decode cc pc = .ok (.invokestatic index, 3)) (kk : ∀ (H : Heap) (locs : List Loc), nn_W D cy ad A s.heap τ' H locs → W p l e R s m args below meth c H locs cells slots Q (F0 m (pc + 3) ls rest)) : W p l e R s m args below meth c H locs cells slots Q (F0 m pc ls (.int n :: .int dp :: .ref (ad (6*v+2)) :: .int sp :: .ref (ad (6*w+2)) :: rest)) := by
  subst hx; subst hz; subst hτ
  exact nn_acI S hK hw (ce_V (k := 2) hw9 (by decide)) (by omega) (ce_V (k := 2) hv (by decide)) (by omega) h1 h2 h3 h4 h5 hsz hf hl (un_V (k := 2) hv (by decide) (fun j hj hne => by rcases j with _ | _ | _ | _ | _ | _ | j <;> first | rfl | exact absurd rfl hne | omega)) hlink hdg kk
theorem ac_Vl_drifts (S : CallFix p m c cc nL s args nn_B own) (hK : nn_K D cy s) (hw : nn_W D cy ad A s.heap τ H locs) {v w : Nat} (hv : v < 19) (hw9 : w < 19) {x z : nVl} (hx : gV τ v = x) (hz : gV τ w = z) {sp dp n : Int32} (h1 : ¬ sp < 0) (h2 : ¬ dp < 0) (h3 : ¬ n < 0) (h4 : sp.toNatClampNeg + n.toNatClampNeg ≤ 6) (h5 : dp.toNatClampNeg + n.toNatClampNeg ≤ 6) (hsz : ls.size = nL) (hf : 1 ≤ R.frames) (hl : (rest.map fun v => v.category).sum + (nativeFrameWords "java/lang/System" "arraycopy" 5 + 11) ≤ R.locals) (hτ : sV τ v (s_Vl_drifts x (va_cpy (g_Vl_drifts z) (g_Vl_drifts x) sp.toNatClampNeg dp.toNatClampNeg n.toNatClampNeg)) = τ') {index : Nat} (hlink : Cond.methodLink own index arraycopyName ∈ nn_B) (hdg : decode cc pc = .ok (.invokestatic index, 3)) (kk : ∀ (H : Heap) (locs : List Loc), nn_W D cy ad A s.heap τ' H locs → W p l e R s m args below meth c H locs cells slots Q (F0 m (pc + 3) ls rest)) : W p l e R s m args below meth c H locs cells slots Q (F0 m pc ls (.int n :: .int dp :: .ref (ad (6*v+3)) :: .int sp :: .ref (ad (6*w+3)) :: rest)) := by
  subst hx; subst hz; subst hτ
  exact nn_acI S hK hw (ce_V (k := 3) hw9 (by decide)) (by omega) (ce_V (k := 3) hv (by decide)) (by omega) h1 h2 h3 h4 h5 hsz hf hl (un_V (k := 3) hv (by decide) (fun j hj hne => by rcases j with _ | _ | _ | _ | _ | _ | j <;> first | rfl | exact absurd rfl hne | omega)) hlink hdg kk
theorem ac_Vl_miles (S : CallFix p m c cc nL s args nn_B own) (hK : nn_K D cy s) (hw : nn_W D cy ad A s.heap τ H locs) {v w : Nat} (hv : v < 19) (hw9 : w < 19) {x z : nVl} (hx : gV τ v = x) (hz : gV τ w = z) {sp dp n : Int32} (h1 : ¬ sp < 0) (h2 : ¬ dp < 0) (h3 : ¬ n < 0) (h4 : sp.toNatClampNeg + n.toNatClampNeg ≤ 6) (h5 : dp.toNatClampNeg + n.toNatClampNeg ≤ 6) (hsz : ls.size = nL) (hf : 1 ≤ R.frames) (hl : (rest.map fun v => v.category).sum + (nativeFrameWords "java/lang/System" "arraycopy" 5 + 11) ≤ R.locals) (hτ : sV τ v (s_Vl_miles x (va_cpy (g_Vl_miles z) (g_Vl_miles x) sp.toNatClampNeg dp.toNatClampNeg n.toNatClampNeg)) = τ') {index : Nat} (hlink : Cond.methodLink own index arraycopyName ∈ nn_B) (hdg : decode cc pc = .ok (.invokestatic index, 3)) (kk : ∀ (H : Heap) (locs : List Loc), nn_W D cy ad A s.heap τ' H locs → W p l e R s m args below meth c H locs cells slots Q (F0 m (pc + 3) ls rest)) : W p l e R s m args below meth c H locs cells slots Q (F0 m pc ls (.int n :: .int dp :: .ref (ad (6*v+4)) :: .int sp :: .ref (ad (6*w+4)) :: rest)) := by
  subst hx; subst hz; subst hτ
  exact nn_acI S hK hw (ce_V (k := 4) hw9 (by decide)) (by omega) (ce_V (k := 4) hv (by decide)) (by omega) h1 h2 h3 h4 h5 hsz hf hl (un_V (k := 4) hv (by decide) (fun j hj hne => by rcases j with _ | _ | _ | _ | _ | _ | j <;> first | rfl | exact absurd rfl hne | omega)) hlink hdg kk
theorem ac_Vl_shifts (S : CallFix p m c cc nL s args nn_B own) (hK : nn_K D cy s) (hw : nn_W D cy ad A s.heap τ H locs) {v w : Nat} (hv : v < 19) (hw9 : w < 19) {x z : nVl} (hx : gV τ v = x) (hz : gV τ w = z) {sp dp n : Int32} (h1 : ¬ sp < 0) (h2 : ¬ dp < 0) (h3 : ¬ n < 0) (h4 : sp.toNatClampNeg + n.toNatClampNeg ≤ 6) (h5 : dp.toNatClampNeg + n.toNatClampNeg ≤ 6) (hsz : ls.size = nL) (hf : 1 ≤ R.frames) (hl : (rest.map fun v => v.category).sum + (nativeFrameWords "java/lang/System" "arraycopy" 5 + 11) ≤ R.locals) (hτ : sV τ v (s_Vl_shifts x (va_cpy (g_Vl_shifts z) (g_Vl_shifts x) sp.toNatClampNeg dp.toNatClampNeg n.toNatClampNeg)) = τ') {index : Nat} (hlink : Cond.methodLink own index arraycopyName ∈ nn_B) (hdg : decode cc pc = .ok (.invokestatic index, 3)) (kk : ∀ (H : Heap) (locs : List Loc), nn_W D cy ad A s.heap τ' H locs → W p l e R s m args below meth c H locs cells slots Q (F0 m (pc + 3) ls rest)) : W p l e R s m args below meth c H locs cells slots Q (F0 m pc ls (.int n :: .int dp :: .ref (ad (6*v+5)) :: .int sp :: .ref (ad (6*w+5)) :: rest)) := by
  subst hx; subst hz; subst hτ
  exact nn_acI S hK hw (ce_V (k := 5) hw9 (by decide)) (by omega) (ce_V (k := 5) hv (by decide)) (by omega) h1 h2 h3 h4 h5 hsz hf hl (un_V (k := 5) hv (by decide) (fun j hj hne => by rcases j with _ | _ | _ | _ | _ | _ | j <;> first | rfl | exact absurd rfl hne | omega)) hlink hdg kk
theorem ac_Ca (S : CallFix p m c cc nL s args nn_B own) (hK : nn_K D cy s) (hw : nn_W D cy ad A s.heap τ H locs) {x : nCa} (hx : gCa τ = x) {sp dp n : Int32} (h1 : ¬ sp < 0) (h2 : ¬ dp < 0) (h3 : ¬ n < 0) (h4 : sp.toNatClampNeg + n.toNatClampNeg ≤ 6) (h5 : dp.toNatClampNeg + n.toNatClampNeg ≤ 6) (hsz : ls.size = nL) (hf : 1 ≤ R.frames) (hl : (rest.map fun v => v.category).sum + (nativeFrameWords "java/lang/System" "arraycopy" 5 + 11) ≤ R.locals) (hτ : sCa τ (s_Ca_bestOrder x (va_cpy (g_Ca_order x) (g_Ca_bestOrder x) sp.toNatClampNeg dp.toNatClampNeg n.toNatClampNeg)) = τ') {index : Nat} (hlink : Cond.methodLink own index arraycopyName ∈ nn_B) (hdg : decode cc pc = .ok (.invokestatic index, 3)) (kk : ∀ (H : Heap) (locs : List Loc), nn_W D cy ad A s.heap τ' H locs → W p l e R s m args below meth c H locs cells slots Q (F0 m (pc + 3) ls rest)) : W p l e R s m args below meth c H locs cells slots Q (F0 m pc ls (.int n :: .int dp :: .ref (ad 124) :: .int sp :: .ref (ad 123) :: rest)) := by
  subst hx; subst hτ
  exact nn_acI S hK hw (ce_O (k := 5) (by decide)) (by decide) (ce_O (k := 6) (by decide)) (by decide) h1 h2 h3 h4 h5 hsz hf hl (un_O (k := 6) (by decide) (by rfl) (by rfl) (by rfl) (by rfl) (fun j hj hne => by rcases j with _ | _ | _ | _ | _ | _ | _ | _ | _ | _ | j <;> first | rfl | exact absurd rfl hne | omega)) hlink hdg kk
theorem ac_Se (S : CallFix p m c cc nL s args nn_B own) (hK : nn_K D cy s) (hw : nn_W D cy ad A s.heap τ H locs) {x : nSe} (hx : gSe τ = x) {sp dp n : Int32} (h1 : ¬ sp < 0) (h2 : ¬ dp < 0) (h3 : ¬ n < 0) (h4 : sp.toNatClampNeg + n.toNatClampNeg ≤ 6) (h5 : dp.toNatClampNeg + n.toNatClampNeg ≤ 6) (hsz : ls.size = nL) (hf : 1 ≤ R.frames) (hl : (rest.map fun v => v.category).sum + (nativeFrameWords "java/lang/System" "arraycopy" 5 + 11) ≤ R.locals) (hτ : sSe τ (s_Se_bestShifts x (va_cpy (g_Se_shifts x) (g_Se_bestShifts x) sp.toNatClampNeg dp.toNatClampNeg n.toNatClampNeg)) = τ') {index : Nat} (hlink : Cond.methodLink own index arraycopyName ∈ nn_B) (hdg : decode cc pc = .ok (.invokestatic index, 3)) (kk : ∀ (H : Heap) (locs : List Loc), nn_W D cy ad A s.heap τ' H locs → W p l e R s m args below meth c H locs cells slots Q (F0 m (pc + 3) ls rest)) : W p l e R s m args below meth c H locs cells slots Q (F0 m pc ls (.int n :: .int dp :: .ref (ad 121) :: .int sp :: .ref (ad 120) :: rest)) := by
  subst hx; subst hτ
  exact nn_acI S hK hw (ce_O (k := 2) (by decide)) (by decide) (ce_O (k := 3) (by decide)) (by decide) h1 h2 h3 h4 h5 hsz hf hl (un_O (k := 3) (by decide) (by rfl) (by rfl) (by rfl) (by rfl) (fun j hj hne => by rcases j with _ | _ | _ | _ | _ | _ | _ | _ | _ | _ | j <;> first | rfl | exact absurd rfl hne | omega)) hlink hdg kk
theorem ac_Sh (S : CallFix p m c cc nL s args nn_B own) (hK : nn_K D cy s) (hw : nn_W D cy ad A s.heap τ H locs) {v w : Nat} (hv : v < 4) (hw9 : w < 4) {x z : nSh} (hx : gSh τ v = x) (hz : gSh τ w = z) {sp dp n : Int32} (h1 : ¬ sp < 0) (h2 : ¬ dp < 0) (h3 : ¬ n < 0) (h4 : sp.toNatClampNeg + n.toNatClampNeg ≤ 24) (h5 : dp.toNatClampNeg + n.toNatClampNeg ≤ 24) (hsz : ls.size = nL) (hf : 1 ≤ R.frames) (hl : (rest.map fun v => v.category).sum + (nativeFrameWords "java/lang/System" "arraycopy" 5 + 11) ≤ R.locals) (hτ : sSh τ v (s_Sh_items x (va_cpy (g_Sh_items z) (g_Sh_items x) sp.toNatClampNeg dp.toNatClampNeg n.toNatClampNeg)) = τ') {index : Nat} (hlink : Cond.methodLink own index arraycopyName ∈ nn_B) (hdg : decode cc pc = .ok (.invokestatic index, 3)) (kk : ∀ (H : Heap) (locs : List Loc), nn_W D cy ad A s.heap τ' H locs → W p l e R s m args below meth c H locs cells slots Q (F0 m (pc + 3) ls rest)) : W p l e R s m args below meth c H locs cells slots Q (F0 m pc ls (.int n :: .int dp :: .ref (ad (129+2*v)) :: .int sp :: .ref (ad (129+2*w)) :: rest)) := by
  subst hx; subst hz; subst hτ
  have e0 : 129+2*v = 128+2*v+1 := by omega
  have e1 : 129+2*w = 128+2*w+1 := by omega
  rw [e0, e1]
  exact nn_acL S hK hw (ce_S (k := 1) hw9 (by decide)) (by omega) (ce_S (k := 1) hv (by decide)) (by omega) h1 h2 h3 h4 h5 hsz hf hl (un_S (k := 1) hv (by decide) (fun j hj hne => by rcases j with _ | _ | j <;> first | rfl | exact absurd rfl hne | omega)) hlink hdg kk
end NN
theorem nn_ofW {l : Launch} {y : MethodName} {ws ws' : List Cond} {rm : Room} {Pc : Array Value → State → Prop} {Qc : Array Value → State → Outcome → State → Prop} {mc ms : Nat} {free : Addr → Prop} {cc : ByteArray} {maxL : Nat} {ret : Option FieldType}
    (hy : plainFor y = true) (hw : ws = Cond.code y cc maxL ret :: ws')
    (body : ∀ p e s m args below meth c s₁, BodyLoose p l y (headSpec ws rm) cc maxL ret e s m args below meth c s₁ → c.maxLocals = maxL → Pc args s →
      W p l e (headSpec ws rm).room s m args below meth c s.heap [] 0 0 (MQ below Qc args s mc ms free) (entryFrame m args maxL)) : Met l y ws rm Pc Qc mc ms free := by
  refine MetFree.of_bodySF (code := cc) (maxLocals := maxL) (ret := ret) hy ?_ ?_
  · intro args s m h hn
    obtain ⟨meth, c, h1, h2, h3, h4, h5, h6, -, -⟩ := Cond.code_spec hn (atoms_spec (ws := ws) h _ (by rw [hw]; exact List.mem_cons_self))
    exact ⟨meth, c, h1, h2, h3, h4, h5, h6⟩
  · intro p e s m args below meth c s₁ B hml hP _
    have hh0 : s₁.heap = s.heap := by rw [B.state]; rfl
    obtain ⟨t, a1, o, b1, b2, b3⟩ := body p e s m args below meth c s₁ B hml hP s₁ hh0 (Stand.of_body B)
    exact ⟨t, o, a1, b1, b2, ⟨b3.1, b3.2⟩⟩
theorem nn_enterI {l : Launch} {y : MethodName} {cc : ByteArray} {maxL : Nat} {ret : Option FieldType} {rm : Room} {D : va_G} {cy : Nat → ClassId} {ad : Nat → Nat} {A : Nat → Prop} {av : List Value} {τ τ' : nG} {r : Int32} (hy : plainFor y = true) (hlen : (lg_sl av).length ≤ maxL) {lv : List (Nat × Value)} (hlv : lv_args 0 av = lv) (body : ∀ (p : Program) (e : Env) (s : State) (m : MethodId) (below : List Frame) (meth : Method) (c : Code), CallFix p m c cc maxL s av.toArray nn_B y.cls → meth.sig.returnType = ret → meth.locks = false → nn_K D cy s → nn_W D cy ad A s.heap τ s.heap [] → ∀ ls : Array Slot, lv_has ls maxL lv → W p l e rm s m av.toArray below meth c s.heap [] 0 0 (MQ below (nn_qi D cy ad A r τ') av.toArray s 0 0 A) (F0 m 0 ls [])) : nn_I l y (nn_ws y cc maxL ret) rm D cy ad A av τ r τ' := by
  refine nn_ofW (cc := cc) (maxL := maxL) (ret := ret) hy rfl ?_
  intro p e s m args below meth c s₁ B hml hv
  obtain ⟨rfl, hK, hP, hD⟩ := hv
  have hts := atoms_spec (ws := nn_ws y cc maxL ret) B.pre
  have hown : s.vm.findClass y.cls = some m.cls := findClass_of_methodNamed B.named
  have hl := lv_entry av (n := maxL) hlen
  rw [hlv] at hl
  rw [lg_entry_eq]
  exact body p e s m below meth c ⟨B.exec, B.bytes, hml, hown, fun w hw => hts w (List.mem_cons_of_mem _ hw)⟩ B.returns B.notSynchronized hK ⟨hP, hD, va_S.rf⟩ _ hl
theorem nn_enterJ {l : Launch} {y : MethodName} {cc : ByteArray} {maxL : Nat} {ret : Option FieldType} {rm : Room} {D : va_G} {cy : Nat → ClassId} {ad : Nat → Nat} {A : Nat → Prop} {av : List Value} {τ τ' : nG} {r : Int64} (hy : plainFor y = true) (hlen : (lg_sl av).length ≤ maxL) {lv : List (Nat × Value)} (hlv : lv_args 0 av = lv) (body : ∀ (p : Program) (e : Env) (s : State) (m : MethodId) (below : List Frame) (meth : Method) (c : Code), CallFix p m c cc maxL s av.toArray nn_B y.cls → meth.sig.returnType = ret → meth.locks = false → nn_K D cy s → nn_W D cy ad A s.heap τ s.heap [] → ∀ ls : Array Slot, lv_has ls maxL lv → W p l e rm s m av.toArray below meth c s.heap [] 0 0 (MQ below (nn_ql D cy ad A r τ') av.toArray s 0 0 A) (F0 m 0 ls [])) : nn_J l y (nn_ws y cc maxL ret) rm D cy ad A av τ r τ' := by
  refine nn_ofW (cc := cc) (maxL := maxL) (ret := ret) hy rfl ?_
  intro p e s m args below meth c s₁ B hml hv
  obtain ⟨rfl, hK, hP, hD⟩ := hv
  have hts := atoms_spec (ws := nn_ws y cc maxL ret) B.pre
  have hown : s.vm.findClass y.cls = some m.cls := findClass_of_methodNamed B.named
  have hl := lv_entry av (n := maxL) hlen
  rw [hlv] at hl
  rw [lg_entry_eq]
  exact body p e s m below meth c ⟨B.exec, B.bytes, hml, hown, fun w hw => hts w (List.mem_cons_of_mem _ hw)⟩ B.returns B.notSynchronized hK ⟨hP, hD, va_S.rf⟩ _ hl
theorem nn_enterV {l : Launch} {y : MethodName} {cc : ByteArray} {maxL : Nat} {ret : Option FieldType} {rm : Room} {D : va_G} {cy : Nat → ClassId} {ad : Nat → Nat} {A : Nat → Prop} {av : List Value} {τ τ' : nG} (hy : plainFor y = true) (hlen : (lg_sl av).length ≤ maxL) {lv : List (Nat × Value)} (hlv : lv_args 0 av = lv) (body : ∀ (p : Program) (e : Env) (s : State) (m : MethodId) (below : List Frame) (meth : Method) (c : Code), CallFix p m c cc maxL s av.toArray nn_B y.cls → meth.sig.returnType = ret → meth.locks = false → nn_K D cy s → nn_W D cy ad A s.heap τ s.heap [] → ∀ ls : Array Slot, lv_has ls maxL lv → W p l e rm s m av.toArray below meth c s.heap [] 0 0 (MQ below (nn_qv D cy ad A τ') av.toArray s 0 0 A) (F0 m 0 ls [])) : nn_V l y (nn_ws y cc maxL ret) rm D cy ad A av τ τ' := by
  refine nn_ofW (cc := cc) (maxL := maxL) (ret := ret) hy rfl ?_
  intro p e s m args below meth c s₁ B hml hv
  obtain ⟨rfl, hK, hP, hD⟩ := hv
  have hts := atoms_spec (ws := nn_ws y cc maxL ret) B.pre
  have hown : s.vm.findClass y.cls = some m.cls := findClass_of_methodNamed B.named
  have hl := lv_entry av (n := maxL) hlen
  rw [hlv] at hl
  rw [lg_entry_eq]
  exact body p e s m below meth c ⟨B.exec, B.bytes, hml, hown, fun w hw => hts w (List.mem_cons_of_mem _ hw)⟩ B.returns B.notSynchronized hK ⟨hP, hD, va_S.rf⟩ _ hl
def nn_ix {α : Type} (i : Int32) (n : Nat) (x : Option α) : Option α := if i < 0 ∨ n ≤ i.toNatClampNeg then none else x
theorem nn_ix_some {α : Type} {i : Int32} {n : Nat} {x : Option α} {r : α} (h : nn_ix i n x = some r) : ¬ (i < 0 ∨ n ≤ i.toNatClampNeg) ∧ x = some r := by
  unfold nn_ix at h
  by_cases c : i < 0 ∨ n ≤ i.toNatClampNeg
  · rw [if_pos c] at h; cases h
  · rw [if_neg c] at h; exact ⟨c, h⟩
def nn_nz {α : Type} (i : Int32) (x : Option α) : Option α := if i = 0 then none else x
theorem nn_nz_some {α : Type} {i : Int32} {x : Option α} {r : α} (h : nn_nz i x = some r) : ¬ i = 0 ∧ x = some r := by
  unfold nn_nz at h
  by_cases c : i = 0
  · rw [if_pos c] at h; cases h
  · rw [if_neg c] at h; exact ⟨c, h⟩
def nn_bo {α : Type} (i : Int32) (x : Option α) : Option α := if i = 0 ∨ i = 1 then x else none
theorem nn_bo_some {α : Type} {i : Int32} {x : Option α} {r : α} (h : nn_bo i x = some r) : (i = 0 ∨ i = 1) ∧ x = some r := by
  unfold nn_bo at h
  by_cases c : i = 0 ∨ i = 1
  · rw [if_pos c] at h; exact ⟨c, h⟩
  · rw [if_neg c] at h; cases h
def nn_ch {α : Type} (i : Int32) (x : Option α) : Option α := if i.toUInt32.toUInt16.toUInt32.toInt32 = i then x else none
theorem nn_ch_some {α : Type} {i : Int32} {x : Option α} {r : α} (h : nn_ch i x = some r) : i.toUInt32.toUInt16.toUInt32.toInt32 = i ∧ x = some r := by
  unfold nn_ch at h
  by_cases c : i.toUInt32.toUInt16.toUInt32.toInt32 = i
  · rw [if_pos c] at h; exact ⟨c, h⟩
  · rw [if_neg c] at h; cases h
def nn_cp {α : Type} (sp dp n : Int32) (n0 n1 : Nat) (x : Option α) : Option α := if sp < 0 ∨ dp < 0 ∨ n < 0 ∨ n0 < sp.toNatClampNeg + n.toNatClampNeg ∨ n1 < dp.toNatClampNeg + n.toNatClampNeg then none else x
theorem nn_cp_some {α : Type} {sp dp n : Int32} {n0 n1 : Nat} {x : Option α} {r : α} (h : nn_cp sp dp n n0 n1 x = some r) : (¬ sp < 0 ∧ ¬ dp < 0 ∧ ¬ n < 0 ∧ sp.toNatClampNeg + n.toNatClampNeg ≤ n0 ∧ dp.toNatClampNeg + n.toNatClampNeg ≤ n1) ∧ x = some r := by
  unfold nn_cp at h
  by_cases c : sp < 0 ∨ dp < 0 ∨ n < 0 ∨ n0 < sp.toNatClampNeg + n.toNatClampNeg ∨ n1 < dp.toNatClampNeg + n.toNatClampNeg
  · rw [if_pos c] at h; cases h
  · rw [if_neg c] at h
    exact ⟨⟨fun q => c (Or.inl q), fun q => c (Or.inr (Or.inl q)), fun q => c (Or.inr (Or.inr (Or.inl q))), Nat.not_lt.mp fun q => c (Or.inr (Or.inr (Or.inr (Or.inl q)))), Nat.not_lt.mp fun q => c (Or.inr (Or.inr (Or.inr (Or.inr q))))⟩, h⟩
theorem nn_bind {α β : Type} {o : Option α} {f : α → Option β} {b : β} (h : o.bind f = some b) : ∃ a, o = some a ∧ f a = some b := Option.bind_eq_some_iff.mp h
